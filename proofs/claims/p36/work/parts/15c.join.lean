section MMJN
variable {w : mm_X} {G : mm_G} {cc : ByteArray} {own nm : String} {nL mc ms d pc n kc ks : Nat} {ret : Option FieldType} {Q : State → Prop} {L : List (Option Value)} {st : List Value} {h : mm_H}
theorem rr_join (C : mm_C w G cc own nL mc ms ret d nm) {pc' : Nat} {L' : List (Option Value)} {st' : List Value} {h' : mm_H} {n' kc' ks' : Nat} (k : WW w G nL mc ms Q pc' L' st' h' n' kc' ks' → WW w G nL mc ms Q pc L st h n kc ks) (kk : WW w G nL mc ms Q pc' L' st' h' n' kc' ks') : WW w G nL mc ms Q pc L st h n kc ks := k kk
theorem rr_join0 (C : mm_C w G cc own nL mc ms ret d nm) {pc' : Nat} {L' : List (Option Value)} {st' : List Value} {h' : mm_H} {n' : Nat} (k : WW w G nL mc ms Q pc' L' st' h' n' kc ks → WW w G nL mc ms Q pc L st h n kc ks) (kk : WW w G nL mc ms Q pc' L' st' h' n' kc ks) : WW w G nL mc ms Q pc L st h n kc ks := k kk
end MMJN
