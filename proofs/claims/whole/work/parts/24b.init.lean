def fsm_0 (n : Nat) : List Value := [.int 0, .int 0, .int 0, .null, .null, .null, .null, .null, .int 0, .int 0, .int 0, .null, .null, .null, .null, .null, .null, .null, .null, .null, .null, .null, .null, .null, .int 0, .int 0, .int 0, .int 0, .int 0, .int 0, .int 0, .int 0, .null, .null, .null, .null, .null, .null, .null, .null, .null, .null, .null, .null, .null, .null, .null, .null, .null, .null, .null, .null, .null, .null, .int 0, .int 0, .int 0, .int 0, .null, .null, .null, .null, .null, .null, .null, .int 0, .long 0, .null]
def him_0 (n : Nat) : List mm_E := []
def fsm_1 (n : Nat) : List Value := [.int 0, .int 0, .int 0, (.ref n), (.ref (n + 1)), (.ref (n + 2)), (.ref (n + 3)), (.ref (n + 4)), .int 0, .int 0, .int 0, (.ref (n + 5)), (.ref (n + 6)), (.ref (n + 7)), (.ref (n + 8)), (.ref (n + 9)), (.ref (n + 10)), (.ref (n + 11)), .null, .null, .null, .null, .null, .null, .int 0, .int 0, .int 0, .int 0, .int 0, .int 0, .int 0, .int 0, .null, .null, .null, .null, .null, .null, .null, .null, .null, .null, .null, .null, .null, .null, .null, .null, .null, .null, .null, .null, .null, .null, .int 0, .int 0, .int 0, .int 0, .null, .null, .null, .null, .null, .null, .null, .int 0, .long 0, .null]
def him_1 (n : Nat) : List mm_E := [.inl (.int, 20, .inl (fun _ => 0)),
    .inl (.int, 20, .inl (fun _ => 0)),
    .inl (.int, 20, .inl (fun _ => 0)),
    .inl (.int, 40, .inl (fun _ => 0)),
    .inl (.int, 40, .inl (fun _ => 0)),
    .inl (.int, 40, .inl (fun _ => 0)),
    .inl (.int, 40, .inl (fun _ => 0)),
    .inl (.int, 500, .inl (fun _ => 0)),
    .inl (.int, 2805, .inl (fun _ => 0)),
    .inl (.long, 11, .inr (.inl (fun _ => 0))),
    .inl (.int, 500, .inl (fun _ => 0)),
    .inl (.int, 500, .inl (fun _ => 0))]
def fsm_2 (n : Nat) : List Value := [.int 0, .int 0, .int 0, (.ref n), (.ref (n + 1)), (.ref (n + 2)), (.ref (n + 3)), (.ref (n + 4)), .int 0, .int 0, .int 0, (.ref (n + 5)), (.ref (n + 6)), (.ref (n + 7)), (.ref (n + 8)), (.ref (n + 9)), (.ref (n + 10)), (.ref (n + 11)), (.ref (n + 12)), (.ref (n + 13)), (.ref (n + 14)), (.ref (n + 15)), (.ref (n + 16)), (.ref (n + 17)), .int 0, .int 0, .int 0, .int 0, .int 0, .int 0, (.int (-1)), .int 0, (.ref (n + 18)), (.ref (n + 19)), (.ref (n + 20)), (.ref (n + 21)), (.ref (n + 22)), .null, .null, .null, .null, .null, .null, .null, .null, .null, .null, .null, .null, .null, .null, .null, .null, .null, .int 0, .int 0, .int 0, .int 0, .null, .null, .null, .null, .null, .null, .null, .int 0, .long 0, .null]
def him_2 (n : Nat) : List mm_E := [.inl (.int, 4200, .inl (fun _ => 0)),
    .inl (.int, 4200, .inl (fun _ => 0)),
    .inl (.int, 14, .inl (fun _ => 0)),
    .inl (.int, 14, .inl (fun _ => 0)),
    .inl (.int, 14, .inl (fun _ => 0)),
    .inl (.int, 14, .inl (fun _ => 0)),
    .inl (.int, 20, .inl (fun _ => 0)),
    .inl (.int, 20, .inl (fun _ => 0)),
    .inl (.int, 20, .inl (fun _ => 0)),
    .inl (.int, 20, .inl (fun _ => 0)),
    .inl (.int, 20, .inl (fun _ => 0)),
    .inl (.int, 20, .inl (fun _ => 0)),
    .inl (.int, 20, .inl (fun _ => 0)),
    .inl (.int, 20, .inl (fun _ => 0)),
    .inl (.int, 20, .inl (fun _ => 0)),
    .inl (.int, 40, .inl (fun _ => 0)),
    .inl (.int, 40, .inl (fun _ => 0)),
    .inl (.int, 40, .inl (fun _ => 0)),
    .inl (.int, 40, .inl (fun _ => 0)),
    .inl (.int, 500, .inl (fun _ => 0)),
    .inl (.int, 2805, .inl (fun _ => 0)),
    .inl (.long, 11, .inr (.inl (fun _ => 0))),
    .inl (.int, 500, .inl (fun _ => 0)),
    .inl (.int, 500, .inl (fun _ => 0))]
def fsm_3 (n : Nat) : List Value := [.int 0, .int 0, .int 0, (.ref n), (.ref (n + 1)), (.ref (n + 2)), (.ref (n + 3)), (.ref (n + 4)), .int 0, .int 0, .int 0, (.ref (n + 5)), (.ref (n + 6)), (.ref (n + 7)), (.ref (n + 8)), (.ref (n + 9)), (.ref (n + 10)), (.ref (n + 11)), (.ref (n + 12)), (.ref (n + 13)), (.ref (n + 14)), (.ref (n + 15)), (.ref (n + 16)), (.ref (n + 17)), .int 0, .int 0, .int 0, .int 0, .int 0, .int 0, (.int (-1)), .int 0, (.ref (n + 18)), (.ref (n + 19)), (.ref (n + 20)), (.ref (n + 21)), (.ref (n + 22)), (.ref (n + 23)), (.ref (n + 24)), (.ref (n + 25)), (.ref (n + 26)), (.ref (n + 27)), (.ref (n + 28)), (.ref (n + 29)), (.ref (n + 30)), (.ref (n + 31)), (.ref (n + 32)), (.ref (n + 33)), (.ref (n + 34)), .null, .null, .null, .null, .null, .int 0, .int 0, .int 0, .int 0, .null, .null, .null, .null, .null, .null, .null, .int 0, .long 0, .null]
def him_3 (n : Nat) : List mm_E := [.inl (.int, 91000, .inl (fun _ => 0)),
    .inl (.int, 91000, .inl (fun _ => 0)),
    .inl (.int, 91000, .inl (fun _ => 0)),
    .inl (.int, 91000, .inl (fun _ => 0)),
    .inl (.int, 91000, .inl (fun _ => 0)),
    .inl (.int, 4200, .inl (fun _ => 0)),
    .inl (.int, 4200, .inl (fun _ => 0)),
    .inl (.int, 4200, .inl (fun _ => 0)),
    .inl (.int, 4200, .inl (fun _ => 0)),
    .inl (.int, 4200, .inl (fun _ => 0)),
    .inl (.int, 4200, .inl (fun _ => 0)),
    .inl (.int, 4200, .inl (fun _ => 0)),
    .inl (.int, 4200, .inl (fun _ => 0)),
    .inl (.int, 4200, .inl (fun _ => 0)),
    .inl (.int, 14, .inl (fun _ => 0)),
    .inl (.int, 14, .inl (fun _ => 0)),
    .inl (.int, 14, .inl (fun _ => 0)),
    .inl (.int, 14, .inl (fun _ => 0)),
    .inl (.int, 20, .inl (fun _ => 0)),
    .inl (.int, 20, .inl (fun _ => 0)),
    .inl (.int, 20, .inl (fun _ => 0)),
    .inl (.int, 20, .inl (fun _ => 0)),
    .inl (.int, 20, .inl (fun _ => 0)),
    .inl (.int, 20, .inl (fun _ => 0)),
    .inl (.int, 20, .inl (fun _ => 0)),
    .inl (.int, 20, .inl (fun _ => 0)),
    .inl (.int, 20, .inl (fun _ => 0)),
    .inl (.int, 40, .inl (fun _ => 0)),
    .inl (.int, 40, .inl (fun _ => 0)),
    .inl (.int, 40, .inl (fun _ => 0)),
    .inl (.int, 40, .inl (fun _ => 0)),
    .inl (.int, 500, .inl (fun _ => 0)),
    .inl (.int, 2805, .inl (fun _ => 0)),
    .inl (.long, 11, .inr (.inl (fun _ => 0))),
    .inl (.int, 500, .inl (fun _ => 0)),
    .inl (.int, 500, .inl (fun _ => 0))]
def fsm_4 (n : Nat) : List Value := [.int 0, .int 0, .int 0, (.ref n), (.ref (n + 1)), (.ref (n + 2)), (.ref (n + 3)), (.ref (n + 4)), .int 0, .int 0, .int 0, (.ref (n + 5)), (.ref (n + 6)), (.ref (n + 7)), (.ref (n + 8)), (.ref (n + 9)), (.ref (n + 10)), (.ref (n + 11)), (.ref (n + 12)), (.ref (n + 13)), (.ref (n + 14)), (.ref (n + 15)), (.ref (n + 16)), (.ref (n + 17)), .int 0, .int 0, .int 0, .int 0, .int 0, .int 0, (.int (-1)), .int 0, (.ref (n + 18)), (.ref (n + 19)), (.ref (n + 20)), (.ref (n + 21)), (.ref (n + 22)), (.ref (n + 23)), (.ref (n + 24)), (.ref (n + 25)), (.ref (n + 26)), (.ref (n + 27)), (.ref (n + 28)), (.ref (n + 29)), (.ref (n + 30)), (.ref (n + 31)), (.ref (n + 32)), (.ref (n + 33)), (.ref (n + 34)), (.ref (n + 35)), (.ref (n + 36)), (.ref (n + 37)), (.ref (n + 38)), (.ref (n + 39)), .int 0, .int 0, (.int (-1)), .int 0, (.ref (n + 40)), (.ref (n + 41)), (.ref (n + 42)), (.ref (n + 43)), (.ref (n + 44)), (.ref (n + 45)), (.ref (n + 46)), .int 0, .long 0, .null]
def him_4 (n : Nat) : List mm_E := [.inl (.int, 50, .inl (fun _ => 0)),
    .inl (.int, 50, .inl (fun _ => 0)),
    .inl (.int, 50, .inl (fun _ => 0)),
    .inl (.long, 5, .inr (.inl (fun _ => 0))),
    .inl (.int, 15, .inl (fun _ => 0)),
    .inl (.int, 15, .inl (fun _ => 0)),
    .inl (.long, 16, .inr (.inl (fun _ => 0))),
    .inl (.byte, 900, .inl (fun _ => 0)),
    .inl (.byte, 900, .inl (fun _ => 0)),
    .inl (.boolean, 300, .inl (fun _ => 0)),
    .inl (.int, 91000, .inl (fun _ => 0)),
    .inl (.int, 91000, .inl (fun _ => 0)),
    .inl (.int, 91000, .inl (fun _ => 0)),
    .inl (.int, 91000, .inl (fun _ => 0)),
    .inl (.int, 91000, .inl (fun _ => 0)),
    .inl (.int, 91000, .inl (fun _ => 0)),
    .inl (.int, 4200, .inl (fun _ => 0)),
    .inl (.int, 4200, .inl (fun _ => 0)),
    .inl (.int, 4200, .inl (fun _ => 0)),
    .inl (.int, 4200, .inl (fun _ => 0)),
    .inl (.int, 4200, .inl (fun _ => 0)),
    .inl (.int, 4200, .inl (fun _ => 0)),
    .inl (.int, 4200, .inl (fun _ => 0)),
    .inl (.int, 4200, .inl (fun _ => 0)),
    .inl (.int, 4200, .inl (fun _ => 0)),
    .inl (.int, 14, .inl (fun _ => 0)),
    .inl (.int, 14, .inl (fun _ => 0)),
    .inl (.int, 14, .inl (fun _ => 0)),
    .inl (.int, 14, .inl (fun _ => 0)),
    .inl (.int, 20, .inl (fun _ => 0)),
    .inl (.int, 20, .inl (fun _ => 0)),
    .inl (.int, 20, .inl (fun _ => 0)),
    .inl (.int, 20, .inl (fun _ => 0)),
    .inl (.int, 20, .inl (fun _ => 0)),
    .inl (.int, 20, .inl (fun _ => 0)),
    .inl (.int, 20, .inl (fun _ => 0)),
    .inl (.int, 20, .inl (fun _ => 0)),
    .inl (.int, 20, .inl (fun _ => 0)),
    .inl (.int, 40, .inl (fun _ => 0)),
    .inl (.int, 40, .inl (fun _ => 0)),
    .inl (.int, 40, .inl (fun _ => 0)),
    .inl (.int, 40, .inl (fun _ => 0)),
    .inl (.int, 500, .inl (fun _ => 0)),
    .inl (.int, 2805, .inl (fun _ => 0)),
    .inl (.long, 11, .inr (.inl (fun _ => 0))),
    .inl (.int, 500, .inl (fun _ => 0)),
    .inl (.int, 500, .inl (fun _ => 0))]
def fsm_5 (n : Nat) : List Value := [.int 0, .int 0, .int 0, (.ref n), (.ref (n + 1)), (.ref (n + 2)), (.ref (n + 3)), (.ref (n + 4)), .int 0, .int 0, .int 0, (.ref (n + 5)), (.ref (n + 6)), (.ref (n + 7)), (.ref (n + 8)), (.ref (n + 9)), (.ref (n + 10)), (.ref (n + 11)), (.ref (n + 12)), (.ref (n + 13)), (.ref (n + 14)), (.ref (n + 15)), (.ref (n + 16)), (.ref (n + 17)), .int 0, .int 0, .int 0, .int 0, .int 0, .int 0, (.int (-1)), .int 0, (.ref (n + 18)), (.ref (n + 19)), (.ref (n + 20)), (.ref (n + 21)), (.ref (n + 22)), (.ref (n + 23)), (.ref (n + 24)), (.ref (n + 25)), (.ref (n + 26)), (.ref (n + 27)), (.ref (n + 28)), (.ref (n + 29)), (.ref (n + 30)), (.ref (n + 31)), (.ref (n + 32)), (.ref (n + 33)), (.ref (n + 34)), (.ref (n + 35)), (.ref (n + 36)), (.ref (n + 37)), (.ref (n + 38)), (.ref (n + 39)), .int 0, .int 0, (.int (-1)), .int 0, (.ref (n + 40)), (.ref (n + 41)), (.ref (n + 42)), (.ref (n + 43)), (.ref (n + 44)), (.ref (n + 45)), (.ref (n + 46)), .int 0, .long 0, (.ref (n + 47))]
def him_5 (n : Nat) : List mm_E := [.inl (.int, 15, .inl (fun _ => 0)),
    .inl (.int, 50, .inl (fun _ => 0)),
    .inl (.int, 50, .inl (fun _ => 0)),
    .inl (.int, 50, .inl (fun _ => 0)),
    .inl (.long, 5, .inr (.inl (fun _ => 0))),
    .inl (.int, 15, .inl (fun _ => 0)),
    .inl (.int, 15, .inl (fun _ => 0)),
    .inl (.long, 16, .inr (.inl (fun _ => 0))),
    .inl (.byte, 900, .inl (fun _ => 0)),
    .inl (.byte, 900, .inl (fun _ => 0)),
    .inl (.boolean, 300, .inl (fun _ => 0)),
    .inl (.int, 91000, .inl (fun _ => 0)),
    .inl (.int, 91000, .inl (fun _ => 0)),
    .inl (.int, 91000, .inl (fun _ => 0)),
    .inl (.int, 91000, .inl (fun _ => 0)),
    .inl (.int, 91000, .inl (fun _ => 0)),
    .inl (.int, 91000, .inl (fun _ => 0)),
    .inl (.int, 4200, .inl (fun _ => 0)),
    .inl (.int, 4200, .inl (fun _ => 0)),
    .inl (.int, 4200, .inl (fun _ => 0)),
    .inl (.int, 4200, .inl (fun _ => 0)),
    .inl (.int, 4200, .inl (fun _ => 0)),
    .inl (.int, 4200, .inl (fun _ => 0)),
    .inl (.int, 4200, .inl (fun _ => 0)),
    .inl (.int, 4200, .inl (fun _ => 0)),
    .inl (.int, 4200, .inl (fun _ => 0)),
    .inl (.int, 14, .inl (fun _ => 0)),
    .inl (.int, 14, .inl (fun _ => 0)),
    .inl (.int, 14, .inl (fun _ => 0)),
    .inl (.int, 14, .inl (fun _ => 0)),
    .inl (.int, 20, .inl (fun _ => 0)),
    .inl (.int, 20, .inl (fun _ => 0)),
    .inl (.int, 20, .inl (fun _ => 0)),
    .inl (.int, 20, .inl (fun _ => 0)),
    .inl (.int, 20, .inl (fun _ => 0)),
    .inl (.int, 20, .inl (fun _ => 0)),
    .inl (.int, 20, .inl (fun _ => 0)),
    .inl (.int, 20, .inl (fun _ => 0)),
    .inl (.int, 20, .inl (fun _ => 0)),
    .inl (.int, 40, .inl (fun _ => 0)),
    .inl (.int, 40, .inl (fun _ => 0)),
    .inl (.int, 40, .inl (fun _ => 0)),
    .inl (.int, 40, .inl (fun _ => 0)),
    .inl (.int, 500, .inl (fun _ => 0)),
    .inl (.int, 2805, .inl (fun i => if i < 2805 then (-1) else 0)),
    .inl (.long, 11, .inr (.inl (fun _ => 0))),
    .inl (.int, 500, .inl (fun _ => 0)),
    .inl (.int, 500, .inl (fun _ => 0))]
def qm_X11_4 (K : Nat) (h : mm_H) (n : Nat) (l0 : Nat) : Option (mm_H × Nat) :=
  (newI h (n + 47) .int 15 15).bind fun h193 =>
  (wrF h193 (n + 48) l0 10 67 (.ref (n + 47))).bind fun h195 =>
  (lp_X11_init_415 K (n + 48) l0 K 0 h195).bind fun v203 =>
  some (v203, n + 48)
def qm_X11_3 (K : Nat) (h : mm_H) (n : Nat) (l0 : Nat) : Option (mm_H × Nat) :=
  (wrF h (n + 36) l0 10 49 (.ref (n + 35))).bind fun h145 =>
  (newI h145 (n + 36) .int 91000 91000).bind fun h147 =>
  (wrF h147 (n + 37) l0 10 50 (.ref (n + 36))).bind fun h149 =>
  (newI h149 (n + 37) .boolean 300 300).bind fun h151 =>
  (wrF h151 (n + 38) l0 10 51 (.ref (n + 37))).bind fun h153 =>
  (newI h153 (n + 38) .byte 900 900).bind fun h155 =>
  (wrF h155 (n + 39) l0 10 52 (.ref (n + 38))).bind fun h157 =>
  (newI h157 (n + 39) .byte 900 900).bind fun h159 =>
  (wrF h159 (n + 40) l0 10 53 (.ref (n + 39))).bind fun h161 =>
  (wrF h161 (n + 40) l0 10 56 (.int (-1))).bind fun h163 =>
  (newJ h163 (n + 40) 16 16).bind fun h165 =>
  (wrF h165 (n + 41) l0 10 58 (.ref (n + 40))).bind fun h167 =>
  (newI h167 (n + 41) .int 15 15).bind fun h169 =>
  (wrF h169 (n + 42) l0 10 59 (.ref (n + 41))).bind fun h171 =>
  (newI h171 (n + 42) .int 15 15).bind fun h173 =>
  (wrF h173 (n + 43) l0 10 60 (.ref (n + 42))).bind fun h175 =>
  (newJ h175 (n + 43) 5 5).bind fun h177 =>
  (wrF h177 (n + 44) l0 10 61 (.ref (n + 43))).bind fun h179 =>
  (newI h179 (n + 44) .int 50 50).bind fun h181 =>
  (wrF h181 (n + 45) l0 10 62 (.ref (n + 44))).bind fun h183 =>
  (newI h183 (n + 45) .int 50 50).bind fun h185 =>
  (wrF h185 (n + 46) l0 10 63 (.ref (n + 45))).bind fun h187 =>
  (newI h187 (n + 46) .int 50 50).bind fun h189 =>
  (wrF h189 (n + 47) l0 10 64 (.ref (n + 46))).bind fun h191 =>
  qm_X11_4 K h191 n l0
def qm_X11_2 (K : Nat) (h : mm_H) (n : Nat) (l0 : Nat) : Option (mm_H × Nat) :=
  (wrF h (n + 24) l0 10 37 (.ref (n + 23))).bind fun h97 =>
  (newI h97 (n + 24) .int 4200 4200).bind fun h99 =>
  (wrF h99 (n + 25) l0 10 38 (.ref (n + 24))).bind fun h101 =>
  (newI h101 (n + 25) .int 4200 4200).bind fun h103 =>
  (wrF h103 (n + 26) l0 10 39 (.ref (n + 25))).bind fun h105 =>
  (newI h105 (n + 26) .int 4200 4200).bind fun h107 =>
  (wrF h107 (n + 27) l0 10 40 (.ref (n + 26))).bind fun h109 =>
  (newI h109 (n + 27) .int 4200 4200).bind fun h111 =>
  (wrF h111 (n + 28) l0 10 41 (.ref (n + 27))).bind fun h113 =>
  (newI h113 (n + 28) .int 4200 4200).bind fun h115 =>
  (wrF h115 (n + 29) l0 10 42 (.ref (n + 28))).bind fun h117 =>
  (newI h117 (n + 29) .int 4200 4200).bind fun h119 =>
  (wrF h119 (n + 30) l0 10 43 (.ref (n + 29))).bind fun h121 =>
  (newI h121 (n + 30) .int 4200 4200).bind fun h123 =>
  (wrF h123 (n + 31) l0 10 44 (.ref (n + 30))).bind fun h125 =>
  (newI h125 (n + 31) .int 91000 91000).bind fun h127 =>
  (wrF h127 (n + 32) l0 10 45 (.ref (n + 31))).bind fun h129 =>
  (newI h129 (n + 32) .int 91000 91000).bind fun h131 =>
  (wrF h131 (n + 33) l0 10 46 (.ref (n + 32))).bind fun h133 =>
  (newI h133 (n + 33) .int 91000 91000).bind fun h135 =>
  (wrF h135 (n + 34) l0 10 47 (.ref (n + 33))).bind fun h137 =>
  (newI h137 (n + 34) .int 91000 91000).bind fun h139 =>
  (wrF h139 (n + 35) l0 10 48 (.ref (n + 34))).bind fun h141 =>
  (newI h141 (n + 35) .int 91000 91000).bind fun h143 =>
  qm_X11_3 K h143 n l0
def qm_X11_1 (K : Nat) (h : mm_H) (n : Nat) (l0 : Nat) : Option (mm_H × Nat) :=
  (newI h (n + 12) .int 20 20).bind fun h49 =>
  (wrF h49 (n + 13) l0 10 18 (.ref (n + 12))).bind fun h51 =>
  (newI h51 (n + 13) .int 20 20).bind fun h53 =>
  (wrF h53 (n + 14) l0 10 19 (.ref (n + 13))).bind fun h55 =>
  (newI h55 (n + 14) .int 20 20).bind fun h57 =>
  (wrF h57 (n + 15) l0 10 20 (.ref (n + 14))).bind fun h59 =>
  (newI h59 (n + 15) .int 20 20).bind fun h61 =>
  (wrF h61 (n + 16) l0 10 21 (.ref (n + 15))).bind fun h63 =>
  (newI h63 (n + 16) .int 20 20).bind fun h65 =>
  (wrF h65 (n + 17) l0 10 22 (.ref (n + 16))).bind fun h67 =>
  (newI h67 (n + 17) .int 20 20).bind fun h69 =>
  (wrF h69 (n + 18) l0 10 23 (.ref (n + 17))).bind fun h71 =>
  (wrF h71 (n + 18) l0 10 30 (.int (-1))).bind fun h73 =>
  (newI h73 (n + 18) .int 14 14).bind fun h75 =>
  (wrF h75 (n + 19) l0 10 32 (.ref (n + 18))).bind fun h77 =>
  (newI h77 (n + 19) .int 14 14).bind fun h79 =>
  (wrF h79 (n + 20) l0 10 33 (.ref (n + 19))).bind fun h81 =>
  (newI h81 (n + 20) .int 14 14).bind fun h83 =>
  (wrF h83 (n + 21) l0 10 34 (.ref (n + 20))).bind fun h85 =>
  (newI h85 (n + 21) .int 14 14).bind fun h87 =>
  (wrF h87 (n + 22) l0 10 35 (.ref (n + 21))).bind fun h89 =>
  (newI h89 (n + 22) .int 4200 4200).bind fun h91 =>
  (wrF h91 (n + 23) l0 10 36 (.ref (n + 22))).bind fun h93 =>
  (newI h93 (n + 23) .int 4200 4200).bind fun h95 =>
  qm_X11_2 K h95 n l0
def qm_X11_0 (K : Nat) (h : mm_H) (n : Nat) (l0 : Nat) : Option (mm_H × Nat) :=
  (newI h n .int 500 500).bind fun h1 =>
  (wrF h1 (n + 1) l0 10 3 (.ref n)).bind fun h3 =>
  (newI h3 (n + 1) .int 500 500).bind fun h5 =>
  (wrF h5 (n + 2) l0 10 4 (.ref (n + 1))).bind fun h7 =>
  (newJ h7 (n + 2) 11 11).bind fun h9 =>
  (wrF h9 (n + 3) l0 10 5 (.ref (n + 2))).bind fun h11 =>
  (newI h11 (n + 3) .int 2805 2805).bind fun h13 =>
  (wrF h13 (n + 4) l0 10 6 (.ref (n + 3))).bind fun h15 =>
  (newI h15 (n + 4) .int 500 500).bind fun h17 =>
  (wrF h17 (n + 5) l0 10 7 (.ref (n + 4))).bind fun h19 =>
  (newI h19 (n + 5) .int 40 40).bind fun h21 =>
  (wrF h21 (n + 6) l0 10 11 (.ref (n + 5))).bind fun h23 =>
  (newI h23 (n + 6) .int 40 40).bind fun h25 =>
  (wrF h25 (n + 7) l0 10 12 (.ref (n + 6))).bind fun h27 =>
  (newI h27 (n + 7) .int 40 40).bind fun h29 =>
  (wrF h29 (n + 8) l0 10 13 (.ref (n + 7))).bind fun h31 =>
  (newI h31 (n + 8) .int 40 40).bind fun h33 =>
  (wrF h33 (n + 9) l0 10 14 (.ref (n + 8))).bind fun h35 =>
  (newI h35 (n + 9) .int 20 20).bind fun h37 =>
  (wrF h37 (n + 10) l0 10 15 (.ref (n + 9))).bind fun h39 =>
  (newI h39 (n + 10) .int 20 20).bind fun h41 =>
  (wrF h41 (n + 11) l0 10 16 (.ref (n + 10))).bind fun h43 =>
  (newI h43 (n + 11) .int 20 20).bind fun h45 =>
  (wrF h45 (n + 12) l0 10 17 (.ref (n + 11))).bind fun h47 =>
  qm_X11_1 K h47 n l0
set_option maxRecDepth 100000 in
set_option maxHeartbeats 4000000 in
theorem i_X11_4 {K : Nat} (hK : 3000 ≤ K) {h0 h : mm_H} {n a : Nat} (s : IS h0 h a 10 68 n (fsm_4 n) (him_4 n)) : ∃ h1, qm_X11_4 K h n a = some (h1, n + 48) ∧ IS h0 h1 a 10 68 n (fsm_5 n) (him_5 n) := by
  have hn := s.lt
  have s0 : IS h0 h a 10 68 n (fsm_4 n) (him_4 n) := s
  obtain ⟨h193, e1, s1⟩ := s0.nI (n := (n + 47)) (ty := .int) (N := 15) (i := 15) (M := 15) rfl ⟨by decide, by decide⟩ (by decide)
  obtain ⟨h195, e2, s2⟩ := s1.wr_ (n := (n + 48)) (k := 67) (v := (.ref (n + 47))) (Nat.lt_add_right 48 hn) (by decide)
  obtain ⟨v203, e3, s3⟩ := s2.fl11 (K := K) (n := (n + 48)) (j := 44) (b := n + 3) (N := 2805) (f := fun _ => 0) hK rfl rfl (Nat.add_lt_add_left (by decide) n) (by decide) (Nat.le_of_ble_eq_true rfl) rfl rfl
  exact ⟨v203, (by unfold qm_X11_4; exact bnd e1 (bnd e2 (bnd e3 ( rfl)))), s3⟩
set_option maxRecDepth 100000 in
set_option maxHeartbeats 4000000 in
theorem i_X11_3 {K : Nat} (hK : 3000 ≤ K) {h0 h : mm_H} {n a : Nat} (s : IS h0 h a 10 68 n (fsm_3 n) (him_3 n)) : ∃ h1, qm_X11_3 K h n a = some (h1, n + 48) ∧ IS h0 h1 a 10 68 n (fsm_5 n) (him_5 n) := by
  have hn := s.lt
  have s0 : IS h0 h a 10 68 n (fsm_3 n) (him_3 n) := s
  obtain ⟨h145, e1, s1⟩ := s0.wr_ (n := (n + 36)) (k := 49) (v := (.ref (n + 35))) (Nat.lt_add_right 36 hn) (by decide)
  obtain ⟨h147, e2, s2⟩ := s1.nI (n := (n + 36)) (ty := .int) (N := 91000) (i := 91000) (M := 91000) rfl ⟨by decide, by decide⟩ (by decide)
  obtain ⟨h149, e3, s3⟩ := s2.wr_ (n := (n + 37)) (k := 50) (v := (.ref (n + 36))) (Nat.lt_add_right 37 hn) (by decide)
  obtain ⟨h151, e4, s4⟩ := s3.nI (n := (n + 37)) (ty := .boolean) (N := 300) (i := 300) (M := 300) rfl ⟨by decide, by decide⟩ (by decide)
  obtain ⟨h153, e5, s5⟩ := s4.wr_ (n := (n + 38)) (k := 51) (v := (.ref (n + 37))) (Nat.lt_add_right 38 hn) (by decide)
  obtain ⟨h155, e6, s6⟩ := s5.nI (n := (n + 38)) (ty := .byte) (N := 900) (i := 900) (M := 900) rfl ⟨by decide, by decide⟩ (by decide)
  obtain ⟨h157, e7, s7⟩ := s6.wr_ (n := (n + 39)) (k := 52) (v := (.ref (n + 38))) (Nat.lt_add_right 39 hn) (by decide)
  obtain ⟨h159, e8, s8⟩ := s7.nI (n := (n + 39)) (ty := .byte) (N := 900) (i := 900) (M := 900) rfl ⟨by decide, by decide⟩ (by decide)
  obtain ⟨h161, e9, s9⟩ := s8.wr_ (n := (n + 40)) (k := 53) (v := (.ref (n + 39))) (Nat.lt_add_right 40 hn) (by decide)
  obtain ⟨h163, e10, s10⟩ := s9.wr_ (n := (n + 40)) (k := 56) (v := (.int (-1))) (Nat.lt_add_right 40 hn) (by decide)
  obtain ⟨h165, e11, s11⟩ := s10.nJ (n := (n + 40)) (N := 16) (i := 16) (M := 16) rfl ⟨by decide, by decide⟩ (by decide)
  obtain ⟨h167, e12, s12⟩ := s11.wr_ (n := (n + 41)) (k := 58) (v := (.ref (n + 40))) (Nat.lt_add_right 41 hn) (by decide)
  obtain ⟨h169, e13, s13⟩ := s12.nI (n := (n + 41)) (ty := .int) (N := 15) (i := 15) (M := 15) rfl ⟨by decide, by decide⟩ (by decide)
  obtain ⟨h171, e14, s14⟩ := s13.wr_ (n := (n + 42)) (k := 59) (v := (.ref (n + 41))) (Nat.lt_add_right 42 hn) (by decide)
  obtain ⟨h173, e15, s15⟩ := s14.nI (n := (n + 42)) (ty := .int) (N := 15) (i := 15) (M := 15) rfl ⟨by decide, by decide⟩ (by decide)
  obtain ⟨h175, e16, s16⟩ := s15.wr_ (n := (n + 43)) (k := 60) (v := (.ref (n + 42))) (Nat.lt_add_right 43 hn) (by decide)
  obtain ⟨h177, e17, s17⟩ := s16.nJ (n := (n + 43)) (N := 5) (i := 5) (M := 5) rfl ⟨by decide, by decide⟩ (by decide)
  obtain ⟨h179, e18, s18⟩ := s17.wr_ (n := (n + 44)) (k := 61) (v := (.ref (n + 43))) (Nat.lt_add_right 44 hn) (by decide)
  obtain ⟨h181, e19, s19⟩ := s18.nI (n := (n + 44)) (ty := .int) (N := 50) (i := 50) (M := 50) rfl ⟨by decide, by decide⟩ (by decide)
  obtain ⟨h183, e20, s20⟩ := s19.wr_ (n := (n + 45)) (k := 62) (v := (.ref (n + 44))) (Nat.lt_add_right 45 hn) (by decide)
  obtain ⟨h185, e21, s21⟩ := s20.nI (n := (n + 45)) (ty := .int) (N := 50) (i := 50) (M := 50) rfl ⟨by decide, by decide⟩ (by decide)
  obtain ⟨h187, e22, s22⟩ := s21.wr_ (n := (n + 46)) (k := 63) (v := (.ref (n + 45))) (Nat.lt_add_right 46 hn) (by decide)
  obtain ⟨h189, e23, s23⟩ := s22.nI (n := (n + 46)) (ty := .int) (N := 50) (i := 50) (M := 50) rfl ⟨by decide, by decide⟩ (by decide)
  obtain ⟨h191, e24, s24⟩ := s23.wr_ (n := (n + 47)) (k := 64) (v := (.ref (n + 46))) (Nat.lt_add_right 47 hn) (by decide)
  obtain ⟨h1, t1, t2⟩ := i_X11_4 (h0 := h0) (h := h191) hK s24
  exact ⟨h1, (by unfold qm_X11_3; exact bnd e1 (bnd e2 (bnd e3 (bnd e4 (bnd e5 (bnd e6 (bnd e7 (bnd e8 (bnd e9 (bnd e10 (bnd e11 (bnd e12 (bnd e13 (bnd e14 (bnd e15 (bnd e16 (bnd e17 (bnd e18 (bnd e19 (bnd e20 (bnd e21 (bnd e22 (bnd e23 (bnd e24 ( t1))))))))))))))))))))))))), t2⟩
set_option maxRecDepth 100000 in
set_option maxHeartbeats 4000000 in
theorem i_X11_2 {K : Nat} (hK : 3000 ≤ K) {h0 h : mm_H} {n a : Nat} (s : IS h0 h a 10 68 n (fsm_2 n) (him_2 n)) : ∃ h1, qm_X11_2 K h n a = some (h1, n + 48) ∧ IS h0 h1 a 10 68 n (fsm_5 n) (him_5 n) := by
  have hn := s.lt
  have s0 : IS h0 h a 10 68 n (fsm_2 n) (him_2 n) := s
  obtain ⟨h97, e1, s1⟩ := s0.wr_ (n := (n + 24)) (k := 37) (v := (.ref (n + 23))) (Nat.lt_add_right 24 hn) (by decide)
  obtain ⟨h99, e2, s2⟩ := s1.nI (n := (n + 24)) (ty := .int) (N := 4200) (i := 4200) (M := 4200) rfl ⟨by decide, by decide⟩ (by decide)
  obtain ⟨h101, e3, s3⟩ := s2.wr_ (n := (n + 25)) (k := 38) (v := (.ref (n + 24))) (Nat.lt_add_right 25 hn) (by decide)
  obtain ⟨h103, e4, s4⟩ := s3.nI (n := (n + 25)) (ty := .int) (N := 4200) (i := 4200) (M := 4200) rfl ⟨by decide, by decide⟩ (by decide)
  obtain ⟨h105, e5, s5⟩ := s4.wr_ (n := (n + 26)) (k := 39) (v := (.ref (n + 25))) (Nat.lt_add_right 26 hn) (by decide)
  obtain ⟨h107, e6, s6⟩ := s5.nI (n := (n + 26)) (ty := .int) (N := 4200) (i := 4200) (M := 4200) rfl ⟨by decide, by decide⟩ (by decide)
  obtain ⟨h109, e7, s7⟩ := s6.wr_ (n := (n + 27)) (k := 40) (v := (.ref (n + 26))) (Nat.lt_add_right 27 hn) (by decide)
  obtain ⟨h111, e8, s8⟩ := s7.nI (n := (n + 27)) (ty := .int) (N := 4200) (i := 4200) (M := 4200) rfl ⟨by decide, by decide⟩ (by decide)
  obtain ⟨h113, e9, s9⟩ := s8.wr_ (n := (n + 28)) (k := 41) (v := (.ref (n + 27))) (Nat.lt_add_right 28 hn) (by decide)
  obtain ⟨h115, e10, s10⟩ := s9.nI (n := (n + 28)) (ty := .int) (N := 4200) (i := 4200) (M := 4200) rfl ⟨by decide, by decide⟩ (by decide)
  obtain ⟨h117, e11, s11⟩ := s10.wr_ (n := (n + 29)) (k := 42) (v := (.ref (n + 28))) (Nat.lt_add_right 29 hn) (by decide)
  obtain ⟨h119, e12, s12⟩ := s11.nI (n := (n + 29)) (ty := .int) (N := 4200) (i := 4200) (M := 4200) rfl ⟨by decide, by decide⟩ (by decide)
  obtain ⟨h121, e13, s13⟩ := s12.wr_ (n := (n + 30)) (k := 43) (v := (.ref (n + 29))) (Nat.lt_add_right 30 hn) (by decide)
  obtain ⟨h123, e14, s14⟩ := s13.nI (n := (n + 30)) (ty := .int) (N := 4200) (i := 4200) (M := 4200) rfl ⟨by decide, by decide⟩ (by decide)
  obtain ⟨h125, e15, s15⟩ := s14.wr_ (n := (n + 31)) (k := 44) (v := (.ref (n + 30))) (Nat.lt_add_right 31 hn) (by decide)
  obtain ⟨h127, e16, s16⟩ := s15.nI (n := (n + 31)) (ty := .int) (N := 91000) (i := 91000) (M := 91000) rfl ⟨by decide, by decide⟩ (by decide)
  obtain ⟨h129, e17, s17⟩ := s16.wr_ (n := (n + 32)) (k := 45) (v := (.ref (n + 31))) (Nat.lt_add_right 32 hn) (by decide)
  obtain ⟨h131, e18, s18⟩ := s17.nI (n := (n + 32)) (ty := .int) (N := 91000) (i := 91000) (M := 91000) rfl ⟨by decide, by decide⟩ (by decide)
  obtain ⟨h133, e19, s19⟩ := s18.wr_ (n := (n + 33)) (k := 46) (v := (.ref (n + 32))) (Nat.lt_add_right 33 hn) (by decide)
  obtain ⟨h135, e20, s20⟩ := s19.nI (n := (n + 33)) (ty := .int) (N := 91000) (i := 91000) (M := 91000) rfl ⟨by decide, by decide⟩ (by decide)
  obtain ⟨h137, e21, s21⟩ := s20.wr_ (n := (n + 34)) (k := 47) (v := (.ref (n + 33))) (Nat.lt_add_right 34 hn) (by decide)
  obtain ⟨h139, e22, s22⟩ := s21.nI (n := (n + 34)) (ty := .int) (N := 91000) (i := 91000) (M := 91000) rfl ⟨by decide, by decide⟩ (by decide)
  obtain ⟨h141, e23, s23⟩ := s22.wr_ (n := (n + 35)) (k := 48) (v := (.ref (n + 34))) (Nat.lt_add_right 35 hn) (by decide)
  obtain ⟨h143, e24, s24⟩ := s23.nI (n := (n + 35)) (ty := .int) (N := 91000) (i := 91000) (M := 91000) rfl ⟨by decide, by decide⟩ (by decide)
  obtain ⟨h1, t1, t2⟩ := i_X11_3 (h0 := h0) (h := h143) hK s24
  exact ⟨h1, (by unfold qm_X11_2; exact bnd e1 (bnd e2 (bnd e3 (bnd e4 (bnd e5 (bnd e6 (bnd e7 (bnd e8 (bnd e9 (bnd e10 (bnd e11 (bnd e12 (bnd e13 (bnd e14 (bnd e15 (bnd e16 (bnd e17 (bnd e18 (bnd e19 (bnd e20 (bnd e21 (bnd e22 (bnd e23 (bnd e24 ( t1))))))))))))))))))))))))), t2⟩
set_option maxRecDepth 100000 in
set_option maxHeartbeats 4000000 in
theorem i_X11_1 {K : Nat} (hK : 3000 ≤ K) {h0 h : mm_H} {n a : Nat} (s : IS h0 h a 10 68 n (fsm_1 n) (him_1 n)) : ∃ h1, qm_X11_1 K h n a = some (h1, n + 48) ∧ IS h0 h1 a 10 68 n (fsm_5 n) (him_5 n) := by
  have hn := s.lt
  have s0 : IS h0 h a 10 68 n (fsm_1 n) (him_1 n) := s
  obtain ⟨h49, e1, s1⟩ := s0.nI (n := (n + 12)) (ty := .int) (N := 20) (i := 20) (M := 20) rfl ⟨by decide, by decide⟩ (by decide)
  obtain ⟨h51, e2, s2⟩ := s1.wr_ (n := (n + 13)) (k := 18) (v := (.ref (n + 12))) (Nat.lt_add_right 13 hn) (by decide)
  obtain ⟨h53, e3, s3⟩ := s2.nI (n := (n + 13)) (ty := .int) (N := 20) (i := 20) (M := 20) rfl ⟨by decide, by decide⟩ (by decide)
  obtain ⟨h55, e4, s4⟩ := s3.wr_ (n := (n + 14)) (k := 19) (v := (.ref (n + 13))) (Nat.lt_add_right 14 hn) (by decide)
  obtain ⟨h57, e5, s5⟩ := s4.nI (n := (n + 14)) (ty := .int) (N := 20) (i := 20) (M := 20) rfl ⟨by decide, by decide⟩ (by decide)
  obtain ⟨h59, e6, s6⟩ := s5.wr_ (n := (n + 15)) (k := 20) (v := (.ref (n + 14))) (Nat.lt_add_right 15 hn) (by decide)
  obtain ⟨h61, e7, s7⟩ := s6.nI (n := (n + 15)) (ty := .int) (N := 20) (i := 20) (M := 20) rfl ⟨by decide, by decide⟩ (by decide)
  obtain ⟨h63, e8, s8⟩ := s7.wr_ (n := (n + 16)) (k := 21) (v := (.ref (n + 15))) (Nat.lt_add_right 16 hn) (by decide)
  obtain ⟨h65, e9, s9⟩ := s8.nI (n := (n + 16)) (ty := .int) (N := 20) (i := 20) (M := 20) rfl ⟨by decide, by decide⟩ (by decide)
  obtain ⟨h67, e10, s10⟩ := s9.wr_ (n := (n + 17)) (k := 22) (v := (.ref (n + 16))) (Nat.lt_add_right 17 hn) (by decide)
  obtain ⟨h69, e11, s11⟩ := s10.nI (n := (n + 17)) (ty := .int) (N := 20) (i := 20) (M := 20) rfl ⟨by decide, by decide⟩ (by decide)
  obtain ⟨h71, e12, s12⟩ := s11.wr_ (n := (n + 18)) (k := 23) (v := (.ref (n + 17))) (Nat.lt_add_right 18 hn) (by decide)
  obtain ⟨h73, e13, s13⟩ := s12.wr_ (n := (n + 18)) (k := 30) (v := (.int (-1))) (Nat.lt_add_right 18 hn) (by decide)
  obtain ⟨h75, e14, s14⟩ := s13.nI (n := (n + 18)) (ty := .int) (N := 14) (i := 14) (M := 14) rfl ⟨by decide, by decide⟩ (by decide)
  obtain ⟨h77, e15, s15⟩ := s14.wr_ (n := (n + 19)) (k := 32) (v := (.ref (n + 18))) (Nat.lt_add_right 19 hn) (by decide)
  obtain ⟨h79, e16, s16⟩ := s15.nI (n := (n + 19)) (ty := .int) (N := 14) (i := 14) (M := 14) rfl ⟨by decide, by decide⟩ (by decide)
  obtain ⟨h81, e17, s17⟩ := s16.wr_ (n := (n + 20)) (k := 33) (v := (.ref (n + 19))) (Nat.lt_add_right 20 hn) (by decide)
  obtain ⟨h83, e18, s18⟩ := s17.nI (n := (n + 20)) (ty := .int) (N := 14) (i := 14) (M := 14) rfl ⟨by decide, by decide⟩ (by decide)
  obtain ⟨h85, e19, s19⟩ := s18.wr_ (n := (n + 21)) (k := 34) (v := (.ref (n + 20))) (Nat.lt_add_right 21 hn) (by decide)
  obtain ⟨h87, e20, s20⟩ := s19.nI (n := (n + 21)) (ty := .int) (N := 14) (i := 14) (M := 14) rfl ⟨by decide, by decide⟩ (by decide)
  obtain ⟨h89, e21, s21⟩ := s20.wr_ (n := (n + 22)) (k := 35) (v := (.ref (n + 21))) (Nat.lt_add_right 22 hn) (by decide)
  obtain ⟨h91, e22, s22⟩ := s21.nI (n := (n + 22)) (ty := .int) (N := 4200) (i := 4200) (M := 4200) rfl ⟨by decide, by decide⟩ (by decide)
  obtain ⟨h93, e23, s23⟩ := s22.wr_ (n := (n + 23)) (k := 36) (v := (.ref (n + 22))) (Nat.lt_add_right 23 hn) (by decide)
  obtain ⟨h95, e24, s24⟩ := s23.nI (n := (n + 23)) (ty := .int) (N := 4200) (i := 4200) (M := 4200) rfl ⟨by decide, by decide⟩ (by decide)
  obtain ⟨h1, t1, t2⟩ := i_X11_2 (h0 := h0) (h := h95) hK s24
  exact ⟨h1, (by unfold qm_X11_1; exact bnd e1 (bnd e2 (bnd e3 (bnd e4 (bnd e5 (bnd e6 (bnd e7 (bnd e8 (bnd e9 (bnd e10 (bnd e11 (bnd e12 (bnd e13 (bnd e14 (bnd e15 (bnd e16 (bnd e17 (bnd e18 (bnd e19 (bnd e20 (bnd e21 (bnd e22 (bnd e23 (bnd e24 ( t1))))))))))))))))))))))))), t2⟩
set_option maxRecDepth 100000 in
set_option maxHeartbeats 4000000 in
theorem i_X11_0 {K : Nat} (hK : 3000 ≤ K) {h0 h : mm_H} {n a : Nat} (s : IS h0 h a 10 68 n (fsm_0 n) (him_0 n)) : ∃ h1, qm_X11_0 K h n a = some (h1, n + 48) ∧ IS h0 h1 a 10 68 n (fsm_5 n) (him_5 n) := by
  have hn := s.lt
  have s0 : IS h0 h a 10 68 n (fsm_0 n) (him_0 n) := s
  obtain ⟨h1, e1, s1⟩ := s0.nI (n := n) (ty := .int) (N := 500) (i := 500) (M := 500) rfl ⟨by decide, by decide⟩ (by decide)
  obtain ⟨h3, e2, s2⟩ := s1.wr_ (n := (n + 1)) (k := 3) (v := (.ref n)) (Nat.lt_add_right 1 hn) (by decide)
  obtain ⟨h5, e3, s3⟩ := s2.nI (n := (n + 1)) (ty := .int) (N := 500) (i := 500) (M := 500) rfl ⟨by decide, by decide⟩ (by decide)
  obtain ⟨h7, e4, s4⟩ := s3.wr_ (n := (n + 2)) (k := 4) (v := (.ref (n + 1))) (Nat.lt_add_right 2 hn) (by decide)
  obtain ⟨h9, e5, s5⟩ := s4.nJ (n := (n + 2)) (N := 11) (i := 11) (M := 11) rfl ⟨by decide, by decide⟩ (by decide)
  obtain ⟨h11, e6, s6⟩ := s5.wr_ (n := (n + 3)) (k := 5) (v := (.ref (n + 2))) (Nat.lt_add_right 3 hn) (by decide)
  obtain ⟨h13, e7, s7⟩ := s6.nI (n := (n + 3)) (ty := .int) (N := 2805) (i := 2805) (M := 2805) rfl ⟨by decide, by decide⟩ (by decide)
  obtain ⟨h15, e8, s8⟩ := s7.wr_ (n := (n + 4)) (k := 6) (v := (.ref (n + 3))) (Nat.lt_add_right 4 hn) (by decide)
  obtain ⟨h17, e9, s9⟩ := s8.nI (n := (n + 4)) (ty := .int) (N := 500) (i := 500) (M := 500) rfl ⟨by decide, by decide⟩ (by decide)
  obtain ⟨h19, e10, s10⟩ := s9.wr_ (n := (n + 5)) (k := 7) (v := (.ref (n + 4))) (Nat.lt_add_right 5 hn) (by decide)
  obtain ⟨h21, e11, s11⟩ := s10.nI (n := (n + 5)) (ty := .int) (N := 40) (i := 40) (M := 40) rfl ⟨by decide, by decide⟩ (by decide)
  obtain ⟨h23, e12, s12⟩ := s11.wr_ (n := (n + 6)) (k := 11) (v := (.ref (n + 5))) (Nat.lt_add_right 6 hn) (by decide)
  obtain ⟨h25, e13, s13⟩ := s12.nI (n := (n + 6)) (ty := .int) (N := 40) (i := 40) (M := 40) rfl ⟨by decide, by decide⟩ (by decide)
  obtain ⟨h27, e14, s14⟩ := s13.wr_ (n := (n + 7)) (k := 12) (v := (.ref (n + 6))) (Nat.lt_add_right 7 hn) (by decide)
  obtain ⟨h29, e15, s15⟩ := s14.nI (n := (n + 7)) (ty := .int) (N := 40) (i := 40) (M := 40) rfl ⟨by decide, by decide⟩ (by decide)
  obtain ⟨h31, e16, s16⟩ := s15.wr_ (n := (n + 8)) (k := 13) (v := (.ref (n + 7))) (Nat.lt_add_right 8 hn) (by decide)
  obtain ⟨h33, e17, s17⟩ := s16.nI (n := (n + 8)) (ty := .int) (N := 40) (i := 40) (M := 40) rfl ⟨by decide, by decide⟩ (by decide)
  obtain ⟨h35, e18, s18⟩ := s17.wr_ (n := (n + 9)) (k := 14) (v := (.ref (n + 8))) (Nat.lt_add_right 9 hn) (by decide)
  obtain ⟨h37, e19, s19⟩ := s18.nI (n := (n + 9)) (ty := .int) (N := 20) (i := 20) (M := 20) rfl ⟨by decide, by decide⟩ (by decide)
  obtain ⟨h39, e20, s20⟩ := s19.wr_ (n := (n + 10)) (k := 15) (v := (.ref (n + 9))) (Nat.lt_add_right 10 hn) (by decide)
  obtain ⟨h41, e21, s21⟩ := s20.nI (n := (n + 10)) (ty := .int) (N := 20) (i := 20) (M := 20) rfl ⟨by decide, by decide⟩ (by decide)
  obtain ⟨h43, e22, s22⟩ := s21.wr_ (n := (n + 11)) (k := 16) (v := (.ref (n + 10))) (Nat.lt_add_right 11 hn) (by decide)
  obtain ⟨h45, e23, s23⟩ := s22.nI (n := (n + 11)) (ty := .int) (N := 20) (i := 20) (M := 20) rfl ⟨by decide, by decide⟩ (by decide)
  obtain ⟨h47, e24, s24⟩ := s23.wr_ (n := (n + 12)) (k := 17) (v := (.ref (n + 11))) (Nat.lt_add_right 12 hn) (by decide)
  obtain ⟨h1, t1, t2⟩ := i_X11_1 (h0 := h0) (h := h47) hK s24
  exact ⟨h1, (by unfold qm_X11_0; exact bnd e1 (bnd e2 (bnd e3 (bnd e4 (bnd e5 (bnd e6 (bnd e7 (bnd e8 (bnd e9 (bnd e10 (bnd e11 (bnd e12 (bnd e13 (bnd e14 (bnd e15 (bnd e16 (bnd e17 (bnd e18 (bnd e19 (bnd e20 (bnd e21 (bnd e22 (bnd e23 (bnd e24 ( t1))))))))))))))))))))))))), t2⟩
theorem i_X11 {K : Nat} (hK : 3000 ≤ K) {h : mm_H} {n a : Nat} (ha : 48 ≤ a) (hn : a < n) (ho : h a = .inr (10, [.int 0, .int 0, .int 0, .null, .null, .null, .null, .null, .int 0, .int 0, .int 0, .null, .null, .null, .null, .null, .null, .null, .null, .null, .null, .null, .null, .null, .int 0, .int 0, .int 0, .int 0, .int 0, .int 0, .int 0, .int 0, .null, .null, .null, .null, .null, .null, .null, .null, .null, .null, .null, .null, .null, .null, .null, .null, .null, .null, .null, .null, .null, .null, .int 0, .int 0, .int 0, .int 0, .null, .null, .null, .null, .null, .null, .null, .int 0, .long 0, .null])) : ∃ h1, q_X11_init K h n a = some (h1, n + 48) ∧ IS h h1 a 10 68 n (fsm_5 n) (him_5 n) := i_X11_0 hK (IS.go_ ha hn ho rfl)
