def lp_X11_reads_2 (K : Nat) (n : Nat) (l0 : Nat) (l1 : Int32) (l2 : Int32) : Nat → Int32 → mm_H → Option (mm_H)
  | 0, _, _ => none
  | k_ + 1, l3, h =>
    if l1 ≤ l3 then
      some (h)
    else
    (rdR h n l0 10 53).bind fun v1 =>
    (rdR h n l0 10 52).bind fun v3 =>
    v3.bind fun a5 =>
    (ldB h n a5 l3).bind fun v7 =>
    v1.bind fun a9 =>
    (stB h n a9 l3 v7).bind fun h11 =>
    lp_X11_reads_2 K n l0 l1 l2 k_ (l3 + 1) h11
def lp_X11_reads_116 (K : Nat) (n : Nat) (l0 : Nat) (l3 : Int32) (l4 : Int32) (l5 : Int32) : Nat → Int32 → mm_H → Option (mm_H)
  | 0, _, _ => none
  | k_ + 1, l6, h =>
    if 300 ≤ l6 then
      some (h)
    else
    (rdR h n l0 10 51).bind fun v38 =>
    v38.bind fun a40 =>
    (stZ h n a40 l6 0).bind fun h42 =>
    lp_X11_reads_116 K n l0 l3 l4 l5 k_ (l6 + 1) h42
def lp_X11_reads_145 (K : Nat) (n : Nat) (l0 : Nat) (l3 : Int32) (l5 : Int32) : Nat → Int32 → Int32 → mm_H → Option (Int32 × mm_H)
  | 0, _, _, _ => none
  | k_ + 1, l4, l6, h =>
    if l4 = 0 then
      some (l4, h)
    else
    (rdI h n l0 10 28).bind fun v50 =>
    (rdI h n l0 10 27).bind fun v52 =>
    if v52 ≤ v50 then
      some (l4, h)
    else
    if 30 ≤ l6 then
      lp_X11_reads_145 K n l0 l3 l5 k_ 0 l6 h
    else
    if l5 = 0 then
      (ckq h n l0 10).bind fun u54 =>
      (q_X11_own K h n l0).bind fun v56 =>
      if v56.1 = 0 then
        lp_X11_reads_145 K n l0 l3 l5 k_ 0 l6 v56.2
      else
      (ckq v56.2 n l0 10).bind fun u58 =>
      (q_X11_blanks K v56.2 n l0).bind fun v60 =>
      lp_X11_reads_145 K n l0 l3 l5 k_ 1 (l6 + 1) v60
    else
    (ckq h n l0 10).bind fun u62 =>
    (q_X11_takes K h n l0 126943972911973).bind fun v64 =>
    if v64.1 = 0 then
      (ckq v64.2 n l0 10).bind fun u66 =>
      (q_X11_own K v64.2 n l0).bind fun v68 =>
      if v68.1 = 0 then
        lp_X11_reads_145 K n l0 l3 l5 k_ 0 l6 v68.2
      else
      (ckq v68.2 n l0 10).bind fun u70 =>
      (q_X11_blanks K v68.2 n l0).bind fun v72 =>
      lp_X11_reads_145 K n l0 l3 l5 k_ 1 (l6 + 1) v72
    else
    (ckq v64.2 n l0 10).bind fun u74 =>
    (q_X11_strike K v64.2 n l0 l3).bind fun v76 =>
    if v76.1 = 0 then
      lp_X11_reads_145 K n l0 l3 l5 k_ 0 l6 v76.2
    else
    (ckq v76.2 n l0 10).bind fun u78 =>
    (q_X11_blanks K v76.2 n l0).bind fun v80 =>
    lp_X11_reads_145 K n l0 l3 l5 k_ 1 (l6 + 1) v80
def q_X11_reads (K : Nat) (h : mm_H) (n : Nat) (l0 : Nat) (l1 : Int32) (l2 : Int32) : Option (Int32 × mm_H) :=
  (lp_X11_reads_2 K n l0 l1 l2 K 0 h).bind fun v13 =>
  (wrF v13 n l0 10 27 (.int l1)).bind fun h15 =>
  (wrF h15 n l0 10 26 (.int 0)).bind fun h17 =>
  (wrF h17 n l0 10 28 (.int 0)).bind fun h19 =>
  (rdR h19 n l0 10 32).bind fun v21 =>
  v21.bind fun a23 =>
  (stI h19 n a23 13 0).bind fun h25 =>
  (rdR h25 n l0 10 35).bind fun v27 =>
  v27.bind fun a29 =>
  (stI h25 n a29 13 0).bind fun h31 =>
  (ckq h31 n l0 10).bind fun u33 =>
  (q_X11_takes K h31 n l0 418447191652).bind fun v35 =>
  if v35.1 = 0 then
    if v35.1 = 0 then
      (lp_X11_reads_116 K n l0 0 1 v35.1 K 0 v35.2).bind fun v44 =>
      (ckq v44 n l0 10).bind fun u46 =>
      (q_X11_blanks K v44 n l0).bind fun v48 =>
      (lp_X11_reads_145 K n l0 0 v35.1 K 1 0 v48).bind fun v82 =>
      if v82.1 = 0 then
        (rdI v82.2 n l0 10 28).bind fun v84 =>
        (wrF v82.2 n l0 10 30 (.int v84)).bind fun h86 =>
        if v82.1 = 0 then
          (ckz v82.1).bind fun u88 =>
          some (v82.1, h86)
        else
        (ckq h86 n l0 10).bind fun u90 =>
        (q_X11_closes K h86 n l0 0).bind fun v92 =>
        (ckz v82.1).bind fun u94 =>
        some (v82.1, v92)
      else
      (wrF v82.2 n l0 10 30 (.int (-1))).bind fun h96 =>
      if v82.1 = 0 then
        (ckz v82.1).bind fun u98 =>
        some (v82.1, h96)
      else
      (ckq h96 n l0 10).bind fun u100 =>
      (q_X11_closes K h96 n l0 0).bind fun v102 =>
      (ckz v82.1).bind fun u104 =>
      some (v82.1, v102)
    else
    if l2 = (-1) then
      (lp_X11_reads_116 K n l0 0 1 v35.1 K 0 v35.2).bind fun v106 =>
      (ckq v106 n l0 10).bind fun u108 =>
      (q_X11_blanks K v106 n l0).bind fun v110 =>
      (lp_X11_reads_145 K n l0 0 v35.1 K 1 0 v110).bind fun v112 =>
      if v112.1 = 0 then
        (rdI v112.2 n l0 10 28).bind fun v114 =>
        (wrF v112.2 n l0 10 30 (.int v114)).bind fun h116 =>
        if v112.1 = 0 then
          (ckz v112.1).bind fun u118 =>
          some (v112.1, h116)
        else
        (ckq h116 n l0 10).bind fun u120 =>
        (q_X11_closes K h116 n l0 0).bind fun v122 =>
        (ckz v112.1).bind fun u124 =>
        some (v112.1, v122)
      else
      (wrF v112.2 n l0 10 30 (.int (-1))).bind fun h126 =>
      if v112.1 = 0 then
        (ckz v112.1).bind fun u128 =>
        some (v112.1, h126)
      else
      (ckq h126 n l0 10).bind fun u130 =>
      (q_X11_closes K h126 n l0 0).bind fun v132 =>
      (ckz v112.1).bind fun u134 =>
      some (v112.1, v132)
    else
    (ckq v35.2 n l0 10).bind fun u136 =>
    (q_X11_copies K v35.2 n l0 l2 13).bind fun v138 =>
    (rdR v138 n l0 10 32).bind fun v140 =>
    v140.bind fun a142 =>
    (ldI v138 n a142 13).bind fun v144 =>
    (lp_X11_reads_116 K n l0 v144 1 v35.1 K 0 v138).bind fun v146 =>
    (ckq v146 n l0 10).bind fun u148 =>
    (q_X11_blanks K v146 n l0).bind fun v150 =>
    (lp_X11_reads_145 K n l0 v144 v35.1 K 1 0 v150).bind fun v152 =>
    if v152.1 = 0 then
      (rdI v152.2 n l0 10 28).bind fun v154 =>
      (wrF v152.2 n l0 10 30 (.int v154)).bind fun h156 =>
      if v152.1 = 0 then
        (ckz v152.1).bind fun u158 =>
        some (v152.1, h156)
      else
      (ckq h156 n l0 10).bind fun u160 =>
      (q_X11_closes K h156 n l0 v144).bind fun v162 =>
      (ckz v152.1).bind fun u164 =>
      some (v152.1, v162)
    else
    (wrF v152.2 n l0 10 30 (.int (-1))).bind fun h166 =>
    if v152.1 = 0 then
      (ckz v152.1).bind fun u168 =>
      some (v152.1, h166)
    else
    (ckq h166 n l0 10).bind fun u170 =>
    (q_X11_closes K h166 n l0 v144).bind fun v172 =>
    (ckz v152.1).bind fun u174 =>
    some (v152.1, v172)
  else
  (ckq v35.2 n l0 10).bind fun u176 =>
  (q_X11_takesSign K v35.2 n l0 59).bind fun v178 =>
  if v178.1 = 0 then
    (lp_X11_reads_116 K n l0 0 v178.1 v35.1 K 0 v178.2).bind fun v181 =>
    (ckq v181 n l0 10).bind fun u183 =>
    (q_X11_blanks K v181 n l0).bind fun v185 =>
    (lp_X11_reads_145 K n l0 0 v35.1 K v178.1 0 v185).bind fun v187 =>
    if v187.1 = 0 then
      (rdI v187.2 n l0 10 28).bind fun v189 =>
      (wrF v187.2 n l0 10 30 (.int v189)).bind fun h191 =>
      if v187.1 = 0 then
        (ckz v187.1).bind fun u193 =>
        some (v187.1, h191)
      else
      (ckq h191 n l0 10).bind fun u195 =>
      (q_X11_closes K h191 n l0 0).bind fun v197 =>
      (ckz v187.1).bind fun u199 =>
      some (v187.1, v197)
    else
    (wrF v187.2 n l0 10 30 (.int (-1))).bind fun h201 =>
    if v187.1 = 0 then
      (ckz v187.1).bind fun u203 =>
      some (v187.1, h201)
    else
    (ckq h201 n l0 10).bind fun u205 =>
    (q_X11_closes K h201 n l0 0).bind fun v207 =>
    (ckz v187.1).bind fun u209 =>
    some (v187.1, v207)
  else
  if v35.1 = 0 then
    (lp_X11_reads_116 K n l0 0 v178.1 v35.1 K 0 v178.2).bind fun v211 =>
    (ckq v211 n l0 10).bind fun u213 =>
    (q_X11_blanks K v211 n l0).bind fun v215 =>
    (lp_X11_reads_145 K n l0 0 v35.1 K v178.1 0 v215).bind fun v217 =>
    if v217.1 = 0 then
      (rdI v217.2 n l0 10 28).bind fun v219 =>
      (wrF v217.2 n l0 10 30 (.int v219)).bind fun h221 =>
      if v217.1 = 0 then
        (ckz v217.1).bind fun u223 =>
        some (v217.1, h221)
      else
      (ckq h221 n l0 10).bind fun u225 =>
      (q_X11_closes K h221 n l0 0).bind fun v227 =>
      (ckz v217.1).bind fun u229 =>
      some (v217.1, v227)
    else
    (wrF v217.2 n l0 10 30 (.int (-1))).bind fun h231 =>
    if v217.1 = 0 then
      (ckz v217.1).bind fun u233 =>
      some (v217.1, h231)
    else
    (ckq h231 n l0 10).bind fun u235 =>
    (q_X11_closes K h231 n l0 0).bind fun v237 =>
    (ckz v217.1).bind fun u239 =>
    some (v217.1, v237)
  else
  if l2 = (-1) then
    (lp_X11_reads_116 K n l0 0 v178.1 v35.1 K 0 v178.2).bind fun v241 =>
    (ckq v241 n l0 10).bind fun u243 =>
    (q_X11_blanks K v241 n l0).bind fun v245 =>
    (lp_X11_reads_145 K n l0 0 v35.1 K v178.1 0 v245).bind fun v247 =>
    if v247.1 = 0 then
      (rdI v247.2 n l0 10 28).bind fun v249 =>
      (wrF v247.2 n l0 10 30 (.int v249)).bind fun h251 =>
      if v247.1 = 0 then
        (ckz v247.1).bind fun u253 =>
        some (v247.1, h251)
      else
      (ckq h251 n l0 10).bind fun u255 =>
      (q_X11_closes K h251 n l0 0).bind fun v257 =>
      (ckz v247.1).bind fun u259 =>
      some (v247.1, v257)
    else
    (wrF v247.2 n l0 10 30 (.int (-1))).bind fun h261 =>
    if v247.1 = 0 then
      (ckz v247.1).bind fun u263 =>
      some (v247.1, h261)
    else
    (ckq h261 n l0 10).bind fun u265 =>
    (q_X11_closes K h261 n l0 0).bind fun v267 =>
    (ckz v247.1).bind fun u269 =>
    some (v247.1, v267)
  else
  (ckq v178.2 n l0 10).bind fun u271 =>
  (q_X11_copies K v178.2 n l0 l2 13).bind fun v273 =>
  (rdR v273 n l0 10 32).bind fun v275 =>
  v275.bind fun a277 =>
  (ldI v273 n a277 13).bind fun v279 =>
  (lp_X11_reads_116 K n l0 v279 v178.1 v35.1 K 0 v273).bind fun v281 =>
  (ckq v281 n l0 10).bind fun u283 =>
  (q_X11_blanks K v281 n l0).bind fun v285 =>
  (lp_X11_reads_145 K n l0 v279 v35.1 K v178.1 0 v285).bind fun v287 =>
  if v287.1 = 0 then
    (rdI v287.2 n l0 10 28).bind fun v289 =>
    (wrF v287.2 n l0 10 30 (.int v289)).bind fun h291 =>
    if v287.1 = 0 then
      (ckz v287.1).bind fun u293 =>
      some (v287.1, h291)
    else
    (ckq h291 n l0 10).bind fun u295 =>
    (q_X11_closes K h291 n l0 v279).bind fun v297 =>
    (ckz v287.1).bind fun u299 =>
    some (v287.1, v297)
  else
  (wrF v287.2 n l0 10 30 (.int (-1))).bind fun h301 =>
  if v287.1 = 0 then
    (ckz v287.1).bind fun u303 =>
    some (v287.1, h301)
  else
  (ckq h301 n l0 10).bind fun u305 =>
  (q_X11_closes K h301 n l0 v279).bind fun v307 =>
  (ckz v287.1).bind fun u309 =>
  some (v287.1, v307)
set_option maxRecDepth 100000 in
set_option maxHeartbeats 4000000 in
theorem w_X11_reads_2 {K : Nat} {W0 : mm_X} {G : mm_G} {mc ms kc ks : Nat} {Q_ : State → Prop} {n : Nat} (C : mm_C W0 G cX11_reads yX11_reads.cls 7 mc ms (some .boolean) 53 yX11_reads.name) (hn : 48 ≤ n) (l0 : Nat) (l1 : Int32) (l2 : Int32) : ∀ (k_ : Nat) (l3 : Int32) (h : mm_H) {r_ : mm_H} (hr : lp_X11_reads_2 K n l0 l1 l2 k_ l3 h = some r_) (hx0 : WW W0 G 7 mc ms Q_ 25 [some (.ref l0), some (.int l1), some (.int l2), none, none, none, none] [] r_ n kc ks), WW W0 G 7 mc ms Q_ 2 [some (.ref l0), some (.int l1), some (.int l2), some (.int l3), none, none, none] [] h n kc ks := by
  intro k_
  induction k_ with
  | zero =>
    intro l3 h r_ hr
    cases hr
  | succ k_ ih_ =>
    intro l3 h r_ hr hx0
    unfold lp_X11_reads_2 at hr
    refine rr_iload_n (i := 3) C dX11_reads_2 rfl rfl ?_
    refine rr_iload_n (i := 1) C dX11_reads_3 rfl rfl ?_
    refine rr_icmp_ge (tgt := 25) C dX11_reads_4 (by decide) (fun c4_ => ?_) (fun c4_ => ?_)
    · replace hr := (if_pos c4_).symm.trans hr
      obtain rfl := Option.some.inj hr
      exact rr_keep [true, true, true, false, false, false, false] (hx0)
    · replace hr := (if_neg c4_).symm.trans hr
      refine rr_aload_n (i := 0) C dX11_reads_7 rfl rfl ?_
      replace hr := Option.bind_eq_some_iff.mp hr
      obtain ⟨v1, e2, hr⟩ := hr
      refine rr_rdR C dX11_reads_8 fl_X11_135 e2 ?_
      refine rr_iload_n (i := 3) C dX11_reads_11 rfl rfl ?_
      refine rr_aload_n (i := 0) C dX11_reads_12 rfl rfl ?_
      replace hr := Option.bind_eq_some_iff.mp hr
      obtain ⟨v3, e4, hr⟩ := hr
      refine rr_rdR C dX11_reads_13 fl_X11_131 e4 ?_
      refine rr_iload_n (i := 3) C dX11_reads_16 rfl rfl ?_
      replace hr := Option.bind_eq_some_iff.mp hr
      obtain ⟨a5, e6, hr⟩ := hr
      subst e6
      replace hr := Option.bind_eq_some_iff.mp hr
      obtain ⟨v7, e8, hr⟩ := hr
      refine rr_ldB C dX11_reads_17 e8 ?_
      replace hr := Option.bind_eq_some_iff.mp hr
      obtain ⟨a9, e10, hr⟩ := hr
      subst e10
      replace hr := Option.bind_eq_some_iff.mp hr
      obtain ⟨h11, e12, hr⟩ := hr
      refine rr_stB C dX11_reads_18 e12 ?_
      refine rr_iinc (v := l3 + 1) C dX11_reads_19 rfl rfl ?_
      show WW W0 G 7 _ _ _ 22 [some (.ref l0), some (.int l1), some (.int l2), some (.int (l3 + 1)), none, none, none] [] h11 n _ _
      refine rr_goto (tgt := 2) C dX11_reads_22 (by decide) ?_
      exact rr_keep [true, true, true, true, false, false, false] (ih_ _ _ hr hx0)
set_option maxRecDepth 100000 in
set_option maxHeartbeats 4000000 in
theorem w_X11_reads_116 {K : Nat} {W0 : mm_X} {G : mm_G} {mc ms kc ks : Nat} {Q_ : State → Prop} {n : Nat} (C : mm_C W0 G cX11_reads yX11_reads.cls 7 mc ms (some .boolean) 53 yX11_reads.name) (hn : 48 ≤ n) (l0 : Nat) (l3 : Int32) (l4 : Int32) (l5 : Int32) : ∀ (k_ : Nat) (l6 : Int32) (h : mm_H) {r_ : mm_H} (hr : lp_X11_reads_116 K n l0 l3 l4 l5 k_ l6 h = some r_) (hx0 : WW W0 G 7 mc ms Q_ 138 [some (.ref l0), none, none, some (.int l3), some (.int l4), some (.int l5), none] [] r_ n kc ks), WW W0 G 7 mc ms Q_ 116 [some (.ref l0), none, none, some (.int l3), some (.int l4), some (.int l5), some (.int l6)] [] h n kc ks := by
  intro k_
  induction k_ with
  | zero =>
    intro l6 h r_ hr
    cases hr
  | succ k_ ih_ =>
    intro l6 h r_ hr hx0
    unfold lp_X11_reads_116 at hr
    refine rr_iload C dX11_reads_116 rfl ?_
    refine rr_sipush (v := 300) C dX11_reads_118 (by decide) ?_
    refine rr_icmp_ge (tgt := 138) C dX11_reads_121 (by decide) (fun c121_ => ?_) (fun c121_ => ?_)
    · replace hr := (if_pos c121_).symm.trans hr
      obtain rfl := Option.some.inj hr
      exact rr_keep [true, false, false, true, true, true, false] (hx0)
    · replace hr := (if_neg c121_).symm.trans hr
      refine rr_aload_n (i := 0) C dX11_reads_124 rfl rfl ?_
      replace hr := Option.bind_eq_some_iff.mp hr
      obtain ⟨v38, e39, hr⟩ := hr
      refine rr_rdR C dX11_reads_125 fl_X11_127 e39 ?_
      refine rr_iload C dX11_reads_128 rfl ?_
      refine rr_iconst (v := 0) C dX11_reads_130 (by decide) ?_
      replace hr := Option.bind_eq_some_iff.mp hr
      obtain ⟨a40, e41, hr⟩ := hr
      subst e41
      replace hr := Option.bind_eq_some_iff.mp hr
      obtain ⟨h42, e43, hr⟩ := hr
      refine rr_stZ C dX11_reads_131 e43 ?_
      refine rr_iinc (v := l6 + 1) C dX11_reads_132 rfl rfl ?_
      show WW W0 G 7 _ _ _ 135 [some (.ref l0), none, none, some (.int l3), some (.int l4), some (.int l5), some (.int (l6 + 1))] [] h42 n _ _
      refine rr_goto (tgt := 116) C dX11_reads_135 (by decide) ?_
      exact rr_keep [true, false, false, true, true, true, true] (ih_ _ _ hr hx0)
set_option maxRecDepth 100000 in
set_option maxHeartbeats 4000000 in
theorem w_X11_reads_145 {K : Nat} {W0 : mm_X} {G : mm_G} {mc ms kc ks : Nat} {Q_ : State → Prop} {n : Nat} (C : mm_C W0 G cX11_reads yX11_reads.cls 7 mc ms (some .boolean) 53 yX11_reads.name) (hn : 48 ≤ n) (l0 : Nat) (l3 : Int32) (l5 : Int32) : ∀ (k_ : Nat) (l4 : Int32) (l6 : Int32) (h : mm_H) {r_ : Int32 × mm_H} (hr : lp_X11_reads_145 K n l0 l3 l5 k_ l4 l6 h = some r_) (hx0 : WW W0 G 7 mc ms Q_ 226 [some (.ref l0), none, none, some (.int l3), some (.int r_.1), none, none] [] r_.2 n kc ks), WW W0 G 7 mc ms Q_ 145 [some (.ref l0), none, none, some (.int l3), some (.int l4), some (.int l5), some (.int l6)] [] h n kc ks := by
  intro k_
  induction k_ with
  | zero =>
    intro l4 l6 h r_ hr
    cases hr
  | succ k_ ih_ =>
    intro l4 l6 h r_ hr hx0
    unfold lp_X11_reads_145 at hr
    refine rr_iload C dX11_reads_145 rfl ?_
    refine rr_if_eq (tgt := 226) C dX11_reads_147 (by decide) (fun c147_ => ?_) (fun c147_ => ?_)
    · replace hr := (if_pos c147_).symm.trans hr
      obtain rfl := Option.some.inj hr
      exact rr_keep [true, false, false, true, true, false, false] (hx0)
    · replace hr := (if_neg c147_).symm.trans hr
      refine rr_aload_n (i := 0) C dX11_reads_150 rfl rfl ?_
      replace hr := Option.bind_eq_some_iff.mp hr
      obtain ⟨v50, e51, hr⟩ := hr
      refine rr_rdI C dX11_reads_151 fl_X11_221 e51 ?_
      refine rr_aload_n (i := 0) C dX11_reads_154 rfl rfl ?_
      replace hr := Option.bind_eq_some_iff.mp hr
      obtain ⟨v52, e53, hr⟩ := hr
      refine rr_rdI C dX11_reads_155 fl_X11_224 e53 ?_
      refine rr_icmp_ge (tgt := 226) C dX11_reads_158 (by decide) (fun c158_ => ?_) (fun c158_ => ?_)
      · replace hr := (if_pos c158_).symm.trans hr
        obtain rfl := Option.some.inj hr
        exact rr_keep [true, false, false, true, true, false, false] (hx0)
      · replace hr := (if_neg c158_).symm.trans hr
        refine rr_iload C dX11_reads_161 rfl ?_
        refine rr_bipush (v := 30) C dX11_reads_163 (by decide) ?_
        refine rr_icmp_ge (tgt := 205) C dX11_reads_165 (by decide) (fun c165_ => ?_) (fun c165_ => ?_)
        · replace hr := (if_pos c165_).symm.trans hr
          refine rr_iconst (v := 0) C dX11_reads_205 (by decide) ?_
          refine rr_istore C dX11_reads_206 (by decide) ?_
          show WW W0 G 7 _ _ _ 208 [some (.ref l0), none, none, some (.int l3), some (.int 0), some (.int l5), some (.int l6)] [] h n _ _
          refine rr_iload C dX11_reads_208 rfl ?_
          refine rr_if_ne (tgt := 216) C dX11_reads_210 (by decide) (fun q_ => absurd rfl q_) (fun _ => ?_)
          refine rr_goto (tgt := 145) C dX11_reads_213 (by decide) ?_
          exact rr_keep [true, false, false, true, true, true, true] (ih_ _ _ _ hr hx0)
        · replace hr := (if_neg c165_).symm.trans hr
          refine rr_iload C dX11_reads_168 rfl ?_
          refine rr_if_eq (tgt := 194) C dX11_reads_170 (by decide) (fun c170_ => ?_) (fun c170_ => ?_)
          · replace hr := (if_pos c170_).symm.trans hr
            refine rr_aload_n (i := 0) C dX11_reads_194 rfl rfl ?_
            replace hr := Option.bind_eq_some_iff.mp hr
            obtain ⟨u54, e55, hr⟩ := hr
            replace hr := Option.bind_eq_some_iff.mp hr
            obtain ⟨v56, e57, hr⟩ := hr
            refine rr_callVq (as := []) (st := []) (mc' := 0) (ms' := 0) C dX11_reads_195 iv_X11_370 (by decide) e55 rfl (Nat.le_of_ble_eq_true rfl) (c_X11_own l0 (by omega) e57) (fun v_ h_ n_ q_ => ?_)
            obtain ⟨q1_, q2_, q3_⟩ := q_
            subst v_; subst h_; subst n_
            show WW W0 G 7 _ _ _ 198 [some (.ref l0), none, none, some (.int l3), some (.int l4), some (.int l5), some (.int l6)] [.int v56.1] v56.2 n _ _
            refine rr_if_eq (tgt := 205) C dX11_reads_198 (by decide) (fun c198_ => ?_) (fun c198_ => ?_)
            · replace hr := (if_pos c198_).symm.trans hr
              refine rr_iconst (v := 0) C dX11_reads_205 (by decide) ?_
              refine rr_istore C dX11_reads_206 (by decide) ?_
              show WW W0 G 7 _ _ _ 208 [some (.ref l0), none, none, some (.int l3), some (.int 0), some (.int l5), some (.int l6)] [] v56.2 n _ _
              refine rr_iload C dX11_reads_208 rfl ?_
              refine rr_if_ne (tgt := 216) C dX11_reads_210 (by decide) (fun q_ => absurd rfl q_) (fun _ => ?_)
              refine rr_goto (tgt := 145) C dX11_reads_213 (by decide) ?_
              exact rr_keep [true, false, false, true, true, true, true] (ih_ _ _ _ hr hx0)
            · replace hr := (if_neg c198_).symm.trans hr
              refine rr_iconst (v := 1) C dX11_reads_201 (by decide) ?_
              refine rr_goto (tgt := 206) C dX11_reads_202 (by decide) ?_
              refine rr_istore C dX11_reads_206 (by decide) ?_
              show WW W0 G 7 _ _ _ 208 [some (.ref l0), none, none, some (.int l3), some (.int 1), some (.int l5), some (.int l6)] [] v56.2 n _ _
              refine rr_iload C dX11_reads_208 rfl ?_
              refine rr_if_ne (tgt := 216) C dX11_reads_210 (by decide) (fun _ => ?_) (fun q_ => absurd q_ (by decide))
              refine rr_iinc (v := l6 + 1) C dX11_reads_216 rfl rfl ?_
              show WW W0 G 7 _ _ _ 219 [some (.ref l0), none, none, some (.int l3), some (.int 1), some (.int l5), some (.int (l6 + 1))] [] v56.2 n _ _
              refine rr_aload_n (i := 0) C dX11_reads_219 rfl rfl ?_
              replace hr := Option.bind_eq_some_iff.mp hr
              obtain ⟨u58, e59, hr⟩ := hr
              replace hr := Option.bind_eq_some_iff.mp hr
              obtain ⟨v60, e61, hr⟩ := hr
              refine rr_callVq (as := []) (st := []) (mc' := 0) (ms' := 0) C dX11_reads_220 iv_X11_227 (by decide) e59 rfl (Nat.le_of_ble_eq_true rfl) (c_X11_blanks l0 (by omega) e61) (fun v_ h_ n_ q_ => ?_)
              obtain ⟨q1_, q2_, q3_⟩ := q_
              subst v_; subst h_; subst n_
              show WW W0 G 7 _ _ _ 223 [some (.ref l0), none, none, some (.int l3), some (.int 1), some (.int l5), some (.int (l6 + 1))] [] v60 n _ _
              refine rr_goto (tgt := 145) C dX11_reads_223 (by decide) ?_
              exact rr_keep [true, false, false, true, true, true, true] (ih_ _ _ _ hr hx0)
          · replace hr := (if_neg c170_).symm.trans hr
            refine rr_aload_n (i := 0) C dX11_reads_173 rfl rfl ?_
            refine rr_ldc2 C dX11_reads_174 ct_X11_365 ?_
            replace hr := Option.bind_eq_some_iff.mp hr
            obtain ⟨u62, e63, hr⟩ := hr
            replace hr := Option.bind_eq_some_iff.mp hr
            obtain ⟨v64, e65, hr⟩ := hr
            refine rr_callVq (as := [.long 126943972911973]) (st := []) (mc' := 0) (ms' := 0) C dX11_reads_177 iv_X11_254 (by decide) e63 rfl (Nat.le_of_ble_eq_true rfl) (c_X11_takes l0 126943972911973 (by omega) e65) (fun v_ h_ n_ q_ => ?_)
            obtain ⟨q1_, q2_, q3_⟩ := q_
            subst v_; subst h_; subst n_
            show WW W0 G 7 _ _ _ 180 [some (.ref l0), none, none, some (.int l3), some (.int l4), some (.int l5), some (.int l6)] [.int v64.1] v64.2 n _ _
            refine rr_if_eq (tgt := 194) C dX11_reads_180 (by decide) (fun c180_ => ?_) (fun c180_ => ?_)
            · replace hr := (if_pos c180_).symm.trans hr
              refine rr_aload_n (i := 0) C dX11_reads_194 rfl rfl ?_
              replace hr := Option.bind_eq_some_iff.mp hr
              obtain ⟨u66, e67, hr⟩ := hr
              replace hr := Option.bind_eq_some_iff.mp hr
              obtain ⟨v68, e69, hr⟩ := hr
              refine rr_callVq (as := []) (st := []) (mc' := 0) (ms' := 0) C dX11_reads_195 iv_X11_370 (by decide) e67 rfl (Nat.le_of_ble_eq_true rfl) (c_X11_own l0 (by omega) e69) (fun v_ h_ n_ q_ => ?_)
              obtain ⟨q1_, q2_, q3_⟩ := q_
              subst v_; subst h_; subst n_
              show WW W0 G 7 _ _ _ 198 [some (.ref l0), none, none, some (.int l3), some (.int l4), some (.int l5), some (.int l6)] [.int v68.1] v68.2 n _ _
              refine rr_if_eq (tgt := 205) C dX11_reads_198 (by decide) (fun c198_ => ?_) (fun c198_ => ?_)
              · replace hr := (if_pos c198_).symm.trans hr
                refine rr_iconst (v := 0) C dX11_reads_205 (by decide) ?_
                refine rr_istore C dX11_reads_206 (by decide) ?_
                show WW W0 G 7 _ _ _ 208 [some (.ref l0), none, none, some (.int l3), some (.int 0), some (.int l5), some (.int l6)] [] v68.2 n _ _
                refine rr_iload C dX11_reads_208 rfl ?_
                refine rr_if_ne (tgt := 216) C dX11_reads_210 (by decide) (fun q_ => absurd rfl q_) (fun _ => ?_)
                refine rr_goto (tgt := 145) C dX11_reads_213 (by decide) ?_
                exact rr_keep [true, false, false, true, true, true, true] (ih_ _ _ _ hr hx0)
              · replace hr := (if_neg c198_).symm.trans hr
                refine rr_iconst (v := 1) C dX11_reads_201 (by decide) ?_
                refine rr_goto (tgt := 206) C dX11_reads_202 (by decide) ?_
                refine rr_istore C dX11_reads_206 (by decide) ?_
                show WW W0 G 7 _ _ _ 208 [some (.ref l0), none, none, some (.int l3), some (.int 1), some (.int l5), some (.int l6)] [] v68.2 n _ _
                refine rr_iload C dX11_reads_208 rfl ?_
                refine rr_if_ne (tgt := 216) C dX11_reads_210 (by decide) (fun _ => ?_) (fun q_ => absurd q_ (by decide))
                refine rr_iinc (v := l6 + 1) C dX11_reads_216 rfl rfl ?_
                show WW W0 G 7 _ _ _ 219 [some (.ref l0), none, none, some (.int l3), some (.int 1), some (.int l5), some (.int (l6 + 1))] [] v68.2 n _ _
                refine rr_aload_n (i := 0) C dX11_reads_219 rfl rfl ?_
                replace hr := Option.bind_eq_some_iff.mp hr
                obtain ⟨u70, e71, hr⟩ := hr
                replace hr := Option.bind_eq_some_iff.mp hr
                obtain ⟨v72, e73, hr⟩ := hr
                refine rr_callVq (as := []) (st := []) (mc' := 0) (ms' := 0) C dX11_reads_220 iv_X11_227 (by decide) e71 rfl (Nat.le_of_ble_eq_true rfl) (c_X11_blanks l0 (by omega) e73) (fun v_ h_ n_ q_ => ?_)
                obtain ⟨q1_, q2_, q3_⟩ := q_
                subst v_; subst h_; subst n_
                show WW W0 G 7 _ _ _ 223 [some (.ref l0), none, none, some (.int l3), some (.int 1), some (.int l5), some (.int (l6 + 1))] [] v72 n _ _
                refine rr_goto (tgt := 145) C dX11_reads_223 (by decide) ?_
                exact rr_keep [true, false, false, true, true, true, true] (ih_ _ _ _ hr hx0)
            · replace hr := (if_neg c180_).symm.trans hr
              refine rr_aload_n (i := 0) C dX11_reads_183 rfl rfl ?_
              refine rr_iload_n (i := 3) C dX11_reads_184 rfl rfl ?_
              replace hr := Option.bind_eq_some_iff.mp hr
              obtain ⟨u74, e75, hr⟩ := hr
              replace hr := Option.bind_eq_some_iff.mp hr
              obtain ⟨v76, e77, hr⟩ := hr
              refine rr_callVq (as := [.int l3]) (st := []) (mc' := 0) (ms' := 0) C dX11_reads_185 iv_X11_367 (by decide) e75 rfl (Nat.le_of_ble_eq_true rfl) (c_X11_strike l0 l3 (by omega) e77) (fun v_ h_ n_ q_ => ?_)
              obtain ⟨q1_, q2_, q3_⟩ := q_
              subst v_; subst h_; subst n_
              show WW W0 G 7 _ _ _ 188 [some (.ref l0), none, none, some (.int l3), some (.int l4), some (.int l5), some (.int l6)] [.int v76.1] v76.2 n _ _
              refine rr_if_eq (tgt := 205) C dX11_reads_188 (by decide) (fun c188_ => ?_) (fun c188_ => ?_)
              · replace hr := (if_pos c188_).symm.trans hr
                refine rr_iconst (v := 0) C dX11_reads_205 (by decide) ?_
                refine rr_istore C dX11_reads_206 (by decide) ?_
                show WW W0 G 7 _ _ _ 208 [some (.ref l0), none, none, some (.int l3), some (.int 0), some (.int l5), some (.int l6)] [] v76.2 n _ _
                refine rr_iload C dX11_reads_208 rfl ?_
                refine rr_if_ne (tgt := 216) C dX11_reads_210 (by decide) (fun q_ => absurd rfl q_) (fun _ => ?_)
                refine rr_goto (tgt := 145) C dX11_reads_213 (by decide) ?_
                exact rr_keep [true, false, false, true, true, true, true] (ih_ _ _ _ hr hx0)
              · replace hr := (if_neg c188_).symm.trans hr
                refine rr_goto (tgt := 201) C dX11_reads_191 (by decide) ?_
                refine rr_iconst (v := 1) C dX11_reads_201 (by decide) ?_
                refine rr_goto (tgt := 206) C dX11_reads_202 (by decide) ?_
                refine rr_istore C dX11_reads_206 (by decide) ?_
                show WW W0 G 7 _ _ _ 208 [some (.ref l0), none, none, some (.int l3), some (.int 1), some (.int l5), some (.int l6)] [] v76.2 n _ _
                refine rr_iload C dX11_reads_208 rfl ?_
                refine rr_if_ne (tgt := 216) C dX11_reads_210 (by decide) (fun _ => ?_) (fun q_ => absurd q_ (by decide))
                refine rr_iinc (v := l6 + 1) C dX11_reads_216 rfl rfl ?_
                show WW W0 G 7 _ _ _ 219 [some (.ref l0), none, none, some (.int l3), some (.int 1), some (.int l5), some (.int (l6 + 1))] [] v76.2 n _ _
                refine rr_aload_n (i := 0) C dX11_reads_219 rfl rfl ?_
                replace hr := Option.bind_eq_some_iff.mp hr
                obtain ⟨u78, e79, hr⟩ := hr
                replace hr := Option.bind_eq_some_iff.mp hr
                obtain ⟨v80, e81, hr⟩ := hr
                refine rr_callVq (as := []) (st := []) (mc' := 0) (ms' := 0) C dX11_reads_220 iv_X11_227 (by decide) e79 rfl (Nat.le_of_ble_eq_true rfl) (c_X11_blanks l0 (by omega) e81) (fun v_ h_ n_ q_ => ?_)
                obtain ⟨q1_, q2_, q3_⟩ := q_
                subst v_; subst h_; subst n_
                show WW W0 G 7 _ _ _ 223 [some (.ref l0), none, none, some (.int l3), some (.int 1), some (.int l5), some (.int (l6 + 1))] [] v80 n _ _
                refine rr_goto (tgt := 145) C dX11_reads_223 (by decide) ?_
                exact rr_keep [true, false, false, true, true, true, true] (ih_ _ _ _ hr hx0)
set_option maxRecDepth 100000 in
set_option maxHeartbeats 4000000 in
theorem c_X11_reads {K : Nat} {G : mm_G} {l : Launch} {h : mm_H} {n : Nat} (l0 : Nat) (l1 : Int32) (l2 : Int32) {r_ : Int32 × mm_H} (hn : 48 ≤ n) (hr : q_X11_reads K h n l0 l1 l2 = some r_) : Sp G l yX11_reads cX11_reads 7 (some .boolean) 53 0 0 [.ref l0, .int l1, .int l2] h n (fun v h' n' => v = some (.int r_.1) ∧ h' = r_.2 ∧ n' = n) := by
  refine Sp_of (by decide +kernel) (Nat.le_of_ble_eq_true rfl) hn ?_
  intro W0 hwl C
  subst hwl
  unfold q_X11_reads at hr
  show WW W0 G 7 0 0 _ 0 [some (.ref l0), some (.int l1), some (.int l2), none, none, none, none] [] h n 0 0
  refine rr_iconst (v := 0) C dX11_reads_0 (by decide) ?_
  refine rr_istore_n (i := 3) C dX11_reads_1 rfl (by decide) ?_
  show WW W0 G 7 _ _ _ 2 [some (.ref l0), some (.int l1), some (.int l2), some (.int 0), none, none, none] [] h n _ _
  replace hr := Option.bind_eq_some_iff.mp hr
  obtain ⟨v13, e14, hr⟩ := hr
  refine rr_keep [true, true, true, true, false, false, false] (w_X11_reads_2 C (by omega) l0 l1 l2 K 0 h e14 ?_)
  show WW W0 G 7 _ _ _ 25 [some (.ref l0), some (.int l1), some (.int l2), none, none, none, none] [] v13 n _ _
  refine rr_aload_n (i := 0) C dX11_reads_25 rfl rfl ?_
  refine rr_iload_n (i := 1) C dX11_reads_26 rfl rfl ?_
  replace hr := Option.bind_eq_some_iff.mp hr
  obtain ⟨h15, e16, hr⟩ := hr
  refine rr_wrF C dX11_reads_27 fp_X11_224 rfl rfl e16 ?_
  refine rr_aload_n (i := 0) C dX11_reads_30 rfl rfl ?_
  refine rr_iconst (v := 0) C dX11_reads_31 (by decide) ?_
  replace hr := Option.bind_eq_some_iff.mp hr
  obtain ⟨h17, e18, hr⟩ := hr
  refine rr_wrF C dX11_reads_32 fp_X11_214 rfl rfl e18 ?_
  refine rr_aload_n (i := 0) C dX11_reads_35 rfl rfl ?_
  refine rr_iconst (v := 0) C dX11_reads_36 (by decide) ?_
  replace hr := Option.bind_eq_some_iff.mp hr
  obtain ⟨h19, e20, hr⟩ := hr
  refine rr_wrF C dX11_reads_37 fp_X11_221 rfl rfl e20 ?_
  refine rr_aload_n (i := 0) C dX11_reads_40 rfl rfl ?_
  replace hr := Option.bind_eq_some_iff.mp hr
  obtain ⟨v21, e22, hr⟩ := hr
  refine rr_rdR C dX11_reads_41 fl_X11_69 e22 ?_
  refine rr_bipush (v := 13) C dX11_reads_44 (by decide) ?_
  refine rr_iconst (v := 0) C dX11_reads_46 (by decide) ?_
  replace hr := Option.bind_eq_some_iff.mp hr
  obtain ⟨a23, e24, hr⟩ := hr
  subst e24
  replace hr := Option.bind_eq_some_iff.mp hr
  obtain ⟨h25, e26, hr⟩ := hr
  refine rr_stI C dX11_reads_47 e26 ?_
  refine rr_aload_n (i := 0) C dX11_reads_48 rfl rfl ?_
  replace hr := Option.bind_eq_some_iff.mp hr
  obtain ⟨v27, e28, hr⟩ := hr
  refine rr_rdR C dX11_reads_49 fl_X11_78 e28 ?_
  refine rr_bipush (v := 13) C dX11_reads_52 (by decide) ?_
  refine rr_iconst (v := 0) C dX11_reads_54 (by decide) ?_
  replace hr := Option.bind_eq_some_iff.mp hr
  obtain ⟨a29, e30, hr⟩ := hr
  subst e30
  replace hr := Option.bind_eq_some_iff.mp hr
  obtain ⟨h31, e32, hr⟩ := hr
  refine rr_stI C dX11_reads_55 e32 ?_
  refine rr_iconst (v := 0) C dX11_reads_56 (by decide) ?_
  refine rr_istore_n (i := 3) C dX11_reads_57 rfl (by decide) ?_
  show WW W0 G 7 _ _ _ 58 [some (.ref l0), some (.int l1), some (.int l2), some (.int 0), none, none, none] [] h31 n _ _
  refine rr_iconst (v := 1) C dX11_reads_58 (by decide) ?_
  refine rr_istore C dX11_reads_59 (by decide) ?_
  show WW W0 G 7 _ _ _ 61 [some (.ref l0), some (.int l1), some (.int l2), some (.int 0), some (.int 1), none, none] [] h31 n _ _
  refine rr_aload_n (i := 0) C dX11_reads_61 rfl rfl ?_
  refine rr_ldc2 C dX11_reads_62 ct_X11_359 ?_
  replace hr := Option.bind_eq_some_iff.mp hr
  obtain ⟨u33, e34, hr⟩ := hr
  replace hr := Option.bind_eq_some_iff.mp hr
  obtain ⟨v35, e36, hr⟩ := hr
  refine rr_callVq (as := [.long 418447191652]) (st := []) (mc' := 0) (ms' := 0) C dX11_reads_65 iv_X11_254 (by decide) e34 rfl (Nat.le_of_ble_eq_true rfl) (c_X11_takes l0 418447191652 (by omega) e36) (fun v_ h_ n_ q_ => ?_)
  obtain ⟨q1_, q2_, q3_⟩ := q_
  subst v_; subst h_; subst n_
  show WW W0 G 7 _ _ _ 68 [some (.ref l0), some (.int l1), some (.int l2), some (.int 0), some (.int 1), none, none] [.int v35.1] v35.2 n _ _
  refine rr_istore C dX11_reads_68 (by decide) ?_
  show WW W0 G 7 _ _ _ 70 [some (.ref l0), some (.int l1), some (.int l2), some (.int 0), some (.int 1), some (.int v35.1), none] [] v35.2 n _ _
  refine rr_iload C dX11_reads_70 rfl ?_
  refine rr_if_eq (tgt := 83) C dX11_reads_72 (by decide) (fun c72_ => ?_) (fun c72_ => ?_)
  · replace hr := (if_pos c72_).symm.trans hr
    refine rr_iload C dX11_reads_83 rfl ?_
    refine rr_if_eq (tgt := 113) C dX11_reads_85 (by decide) (fun q_ => absurd q_ (by decide)) (fun _ => ?_)
    refine rr_iload C dX11_reads_88 rfl ?_
    refine rr_if_eq (tgt := 113) C dX11_reads_90 (by decide) (fun c90_ => ?_) (fun c90_ => ?_)
    · replace hr := (if_pos c90_).symm.trans hr
      refine rr_iconst (v := 0) C dX11_reads_113 (by decide) ?_
      refine rr_istore C dX11_reads_114 (by decide) ?_
      show WW W0 G 7 _ _ _ 116 [some (.ref l0), some (.int l1), some (.int l2), some (.int 0), some (.int 1), some (.int v35.1), some (.int 0)] [] v35.2 n _ _
      replace hr := Option.bind_eq_some_iff.mp hr
      obtain ⟨v44, e45, hr⟩ := hr
      refine rr_keep [true, false, false, true, true, true, true] (w_X11_reads_116 C (by omega) l0 0 1 v35.1 K 0 v35.2 e45 ?_)
      show WW W0 G 7 _ _ _ 138 [some (.ref l0), none, none, some (.int 0), some (.int 1), some (.int v35.1), none] [] v44 n _ _
      refine rr_iconst (v := 0) C dX11_reads_138 (by decide) ?_
      refine rr_istore C dX11_reads_139 (by decide) ?_
      show WW W0 G 7 _ _ _ 141 [some (.ref l0), none, none, some (.int 0), some (.int 1), some (.int v35.1), some (.int 0)] [] v44 n _ _
      refine rr_aload_n (i := 0) C dX11_reads_141 rfl rfl ?_
      replace hr := Option.bind_eq_some_iff.mp hr
      obtain ⟨u46, e47, hr⟩ := hr
      replace hr := Option.bind_eq_some_iff.mp hr
      obtain ⟨v48, e49, hr⟩ := hr
      refine rr_callVq (as := []) (st := []) (mc' := 0) (ms' := 0) C dX11_reads_142 iv_X11_227 (by decide) e47 rfl (Nat.le_of_ble_eq_true rfl) (c_X11_blanks l0 (by omega) e49) (fun v_ h_ n_ q_ => ?_)
      obtain ⟨q1_, q2_, q3_⟩ := q_
      subst v_; subst h_; subst n_
      show WW W0 G 7 _ _ _ 145 [some (.ref l0), none, none, some (.int 0), some (.int 1), some (.int v35.1), some (.int 0)] [] v48 n _ _
      replace hr := Option.bind_eq_some_iff.mp hr
      obtain ⟨v82, e83, hr⟩ := hr
      refine rr_keep [true, false, false, true, true, true, true] (w_X11_reads_145 C (by omega) l0 0 v35.1 K 1 0 v48 e83 ?_)
      show WW W0 G 7 _ _ _ 226 [some (.ref l0), none, none, some (.int 0), some (.int v82.1), none, none] [] v82.2 n _ _
      refine rr_aload_n (i := 0) C dX11_reads_226 rfl rfl ?_
      refine rr_iload C dX11_reads_227 rfl ?_
      refine rr_if_eq (tgt := 236) C dX11_reads_229 (by decide) (fun c229_ => ?_) (fun c229_ => ?_)
      · replace hr := (if_pos c229_).symm.trans hr
        refine rr_aload_n (i := 0) C dX11_reads_236 rfl rfl ?_
        replace hr := Option.bind_eq_some_iff.mp hr
        obtain ⟨v84, e85, hr⟩ := hr
        refine rr_rdI C dX11_reads_237 fl_X11_221 e85 ?_
        replace hr := Option.bind_eq_some_iff.mp hr
        obtain ⟨h86, e87, hr⟩ := hr
        refine rr_wrF C dX11_reads_240 fp_X11_65 rfl rfl e87 ?_
        refine rr_iload C dX11_reads_243 rfl ?_
        refine rr_if_eq (tgt := 253) C dX11_reads_245 (by decide) (fun c245_ => ?_) (fun c245_ => ?_)
        · replace hr := (if_pos c245_).symm.trans hr
          refine rr_iload C dX11_reads_253 rfl ?_
          replace hr := Option.bind_eq_some_iff.mp hr
          obtain ⟨u88, e89, hr⟩ := hr
          obtain rfl := Option.some.inj hr
          exact rr_iret (ty := .boolean) C dX11_reads_255 rfl (ckz_s e89) ⟨rfl, rfl, rfl⟩
        · replace hr := (if_neg c245_).symm.trans hr
          refine rr_aload_n (i := 0) C dX11_reads_248 rfl rfl ?_
          refine rr_iload_n (i := 3) C dX11_reads_249 rfl rfl ?_
          replace hr := Option.bind_eq_some_iff.mp hr
          obtain ⟨u90, e91, hr⟩ := hr
          replace hr := Option.bind_eq_some_iff.mp hr
          obtain ⟨v92, e93, hr⟩ := hr
          refine rr_callVq (as := [.int 0]) (st := []) (mc' := 0) (ms' := 0) C dX11_reads_250 iv_X11_373 (by decide) e91 rfl (Nat.le_of_ble_eq_true rfl) (c_X11_closes l0 0 (by omega) e93) (fun v_ h_ n_ q_ => ?_)
          obtain ⟨q1_, q2_, q3_⟩ := q_
          subst v_; subst h_; subst n_
          show WW W0 G 7 _ _ _ 253 [some (.ref l0), none, none, some (.int 0), some (.int v82.1), none, none] [] v92 n _ _
          refine rr_iload C dX11_reads_253 rfl ?_
          replace hr := Option.bind_eq_some_iff.mp hr
          obtain ⟨u94, e95, hr⟩ := hr
          obtain rfl := Option.some.inj hr
          exact rr_iret (ty := .boolean) C dX11_reads_255 rfl (ckz_s e95) ⟨rfl, rfl, rfl⟩
      · replace hr := (if_neg c229_).symm.trans hr
        refine rr_iconst (v := (-1)) C dX11_reads_232 (by decide) ?_
        refine rr_goto (tgt := 240) C dX11_reads_233 (by decide) ?_
        replace hr := Option.bind_eq_some_iff.mp hr
        obtain ⟨h96, e97, hr⟩ := hr
        refine rr_wrF C dX11_reads_240 fp_X11_65 rfl rfl e97 ?_
        refine rr_iload C dX11_reads_243 rfl ?_
        refine rr_if_eq (tgt := 253) C dX11_reads_245 (by decide) (fun c245_ => ?_) (fun c245_ => ?_)
        · replace hr := (if_pos c245_).symm.trans hr
          refine rr_iload C dX11_reads_253 rfl ?_
          replace hr := Option.bind_eq_some_iff.mp hr
          obtain ⟨u98, e99, hr⟩ := hr
          obtain rfl := Option.some.inj hr
          exact rr_iret (ty := .boolean) C dX11_reads_255 rfl (ckz_s e99) ⟨rfl, rfl, rfl⟩
        · replace hr := (if_neg c245_).symm.trans hr
          refine rr_aload_n (i := 0) C dX11_reads_248 rfl rfl ?_
          refine rr_iload_n (i := 3) C dX11_reads_249 rfl rfl ?_
          replace hr := Option.bind_eq_some_iff.mp hr
          obtain ⟨u100, e101, hr⟩ := hr
          replace hr := Option.bind_eq_some_iff.mp hr
          obtain ⟨v102, e103, hr⟩ := hr
          refine rr_callVq (as := [.int 0]) (st := []) (mc' := 0) (ms' := 0) C dX11_reads_250 iv_X11_373 (by decide) e101 rfl (Nat.le_of_ble_eq_true rfl) (c_X11_closes l0 0 (by omega) e103) (fun v_ h_ n_ q_ => ?_)
          obtain ⟨q1_, q2_, q3_⟩ := q_
          subst v_; subst h_; subst n_
          show WW W0 G 7 _ _ _ 253 [some (.ref l0), none, none, some (.int 0), some (.int v82.1), none, none] [] v102 n _ _
          refine rr_iload C dX11_reads_253 rfl ?_
          replace hr := Option.bind_eq_some_iff.mp hr
          obtain ⟨u104, e105, hr⟩ := hr
          obtain rfl := Option.some.inj hr
          exact rr_iret (ty := .boolean) C dX11_reads_255 rfl (ckz_s e105) ⟨rfl, rfl, rfl⟩
    · replace hr := (if_neg c90_).symm.trans hr
      refine rr_iload_n (i := 2) C dX11_reads_93 rfl rfl ?_
      refine rr_iconst (v := (-1)) C dX11_reads_94 (by decide) ?_
      refine rr_icmp_eq (tgt := 113) C dX11_reads_95 (by decide) (fun c95_ => ?_) (fun c95_ => ?_)
      · replace hr := (if_pos c95_).symm.trans hr
        refine rr_iconst (v := 0) C dX11_reads_113 (by decide) ?_
        refine rr_istore C dX11_reads_114 (by decide) ?_
        show WW W0 G 7 _ _ _ 116 [some (.ref l0), some (.int l1), some (.int l2), some (.int 0), some (.int 1), some (.int v35.1), some (.int 0)] [] v35.2 n _ _
        replace hr := Option.bind_eq_some_iff.mp hr
        obtain ⟨v106, e107, hr⟩ := hr
        refine rr_keep [true, false, false, true, true, true, true] (w_X11_reads_116 C (by omega) l0 0 1 v35.1 K 0 v35.2 e107 ?_)
        show WW W0 G 7 _ _ _ 138 [some (.ref l0), none, none, some (.int 0), some (.int 1), some (.int v35.1), none] [] v106 n _ _
        refine rr_iconst (v := 0) C dX11_reads_138 (by decide) ?_
        refine rr_istore C dX11_reads_139 (by decide) ?_
        show WW W0 G 7 _ _ _ 141 [some (.ref l0), none, none, some (.int 0), some (.int 1), some (.int v35.1), some (.int 0)] [] v106 n _ _
        refine rr_aload_n (i := 0) C dX11_reads_141 rfl rfl ?_
        replace hr := Option.bind_eq_some_iff.mp hr
        obtain ⟨u108, e109, hr⟩ := hr
        replace hr := Option.bind_eq_some_iff.mp hr
        obtain ⟨v110, e111, hr⟩ := hr
        refine rr_callVq (as := []) (st := []) (mc' := 0) (ms' := 0) C dX11_reads_142 iv_X11_227 (by decide) e109 rfl (Nat.le_of_ble_eq_true rfl) (c_X11_blanks l0 (by omega) e111) (fun v_ h_ n_ q_ => ?_)
        obtain ⟨q1_, q2_, q3_⟩ := q_
        subst v_; subst h_; subst n_
        show WW W0 G 7 _ _ _ 145 [some (.ref l0), none, none, some (.int 0), some (.int 1), some (.int v35.1), some (.int 0)] [] v110 n _ _
        replace hr := Option.bind_eq_some_iff.mp hr
        obtain ⟨v112, e113, hr⟩ := hr
        refine rr_keep [true, false, false, true, true, true, true] (w_X11_reads_145 C (by omega) l0 0 v35.1 K 1 0 v110 e113 ?_)
        show WW W0 G 7 _ _ _ 226 [some (.ref l0), none, none, some (.int 0), some (.int v112.1), none, none] [] v112.2 n _ _
        refine rr_aload_n (i := 0) C dX11_reads_226 rfl rfl ?_
        refine rr_iload C dX11_reads_227 rfl ?_
        refine rr_if_eq (tgt := 236) C dX11_reads_229 (by decide) (fun c229_ => ?_) (fun c229_ => ?_)
        · replace hr := (if_pos c229_).symm.trans hr
          refine rr_aload_n (i := 0) C dX11_reads_236 rfl rfl ?_
          replace hr := Option.bind_eq_some_iff.mp hr
          obtain ⟨v114, e115, hr⟩ := hr
          refine rr_rdI C dX11_reads_237 fl_X11_221 e115 ?_
          replace hr := Option.bind_eq_some_iff.mp hr
          obtain ⟨h116, e117, hr⟩ := hr
          refine rr_wrF C dX11_reads_240 fp_X11_65 rfl rfl e117 ?_
          refine rr_iload C dX11_reads_243 rfl ?_
          refine rr_if_eq (tgt := 253) C dX11_reads_245 (by decide) (fun c245_ => ?_) (fun c245_ => ?_)
          · replace hr := (if_pos c245_).symm.trans hr
            refine rr_iload C dX11_reads_253 rfl ?_
            replace hr := Option.bind_eq_some_iff.mp hr
            obtain ⟨u118, e119, hr⟩ := hr
            obtain rfl := Option.some.inj hr
            exact rr_iret (ty := .boolean) C dX11_reads_255 rfl (ckz_s e119) ⟨rfl, rfl, rfl⟩
          · replace hr := (if_neg c245_).symm.trans hr
            refine rr_aload_n (i := 0) C dX11_reads_248 rfl rfl ?_
            refine rr_iload_n (i := 3) C dX11_reads_249 rfl rfl ?_
            replace hr := Option.bind_eq_some_iff.mp hr
            obtain ⟨u120, e121, hr⟩ := hr
            replace hr := Option.bind_eq_some_iff.mp hr
            obtain ⟨v122, e123, hr⟩ := hr
            refine rr_callVq (as := [.int 0]) (st := []) (mc' := 0) (ms' := 0) C dX11_reads_250 iv_X11_373 (by decide) e121 rfl (Nat.le_of_ble_eq_true rfl) (c_X11_closes l0 0 (by omega) e123) (fun v_ h_ n_ q_ => ?_)
            obtain ⟨q1_, q2_, q3_⟩ := q_
            subst v_; subst h_; subst n_
            show WW W0 G 7 _ _ _ 253 [some (.ref l0), none, none, some (.int 0), some (.int v112.1), none, none] [] v122 n _ _
            refine rr_iload C dX11_reads_253 rfl ?_
            replace hr := Option.bind_eq_some_iff.mp hr
            obtain ⟨u124, e125, hr⟩ := hr
            obtain rfl := Option.some.inj hr
            exact rr_iret (ty := .boolean) C dX11_reads_255 rfl (ckz_s e125) ⟨rfl, rfl, rfl⟩
        · replace hr := (if_neg c229_).symm.trans hr
          refine rr_iconst (v := (-1)) C dX11_reads_232 (by decide) ?_
          refine rr_goto (tgt := 240) C dX11_reads_233 (by decide) ?_
          replace hr := Option.bind_eq_some_iff.mp hr
          obtain ⟨h126, e127, hr⟩ := hr
          refine rr_wrF C dX11_reads_240 fp_X11_65 rfl rfl e127 ?_
          refine rr_iload C dX11_reads_243 rfl ?_
          refine rr_if_eq (tgt := 253) C dX11_reads_245 (by decide) (fun c245_ => ?_) (fun c245_ => ?_)
          · replace hr := (if_pos c245_).symm.trans hr
            refine rr_iload C dX11_reads_253 rfl ?_
            replace hr := Option.bind_eq_some_iff.mp hr
            obtain ⟨u128, e129, hr⟩ := hr
            obtain rfl := Option.some.inj hr
            exact rr_iret (ty := .boolean) C dX11_reads_255 rfl (ckz_s e129) ⟨rfl, rfl, rfl⟩
          · replace hr := (if_neg c245_).symm.trans hr
            refine rr_aload_n (i := 0) C dX11_reads_248 rfl rfl ?_
            refine rr_iload_n (i := 3) C dX11_reads_249 rfl rfl ?_
            replace hr := Option.bind_eq_some_iff.mp hr
            obtain ⟨u130, e131, hr⟩ := hr
            replace hr := Option.bind_eq_some_iff.mp hr
            obtain ⟨v132, e133, hr⟩ := hr
            refine rr_callVq (as := [.int 0]) (st := []) (mc' := 0) (ms' := 0) C dX11_reads_250 iv_X11_373 (by decide) e131 rfl (Nat.le_of_ble_eq_true rfl) (c_X11_closes l0 0 (by omega) e133) (fun v_ h_ n_ q_ => ?_)
            obtain ⟨q1_, q2_, q3_⟩ := q_
            subst v_; subst h_; subst n_
            show WW W0 G 7 _ _ _ 253 [some (.ref l0), none, none, some (.int 0), some (.int v112.1), none, none] [] v132 n _ _
            refine rr_iload C dX11_reads_253 rfl ?_
            replace hr := Option.bind_eq_some_iff.mp hr
            obtain ⟨u134, e135, hr⟩ := hr
            obtain rfl := Option.some.inj hr
            exact rr_iret (ty := .boolean) C dX11_reads_255 rfl (ckz_s e135) ⟨rfl, rfl, rfl⟩
      · replace hr := (if_neg c95_).symm.trans hr
        refine rr_aload_n (i := 0) C dX11_reads_98 rfl rfl ?_
        refine rr_iload_n (i := 2) C dX11_reads_99 rfl rfl ?_
        refine rr_bipush (v := 13) C dX11_reads_100 (by decide) ?_
        replace hr := Option.bind_eq_some_iff.mp hr
        obtain ⟨u136, e137, hr⟩ := hr
        replace hr := Option.bind_eq_some_iff.mp hr
        obtain ⟨v138, e139, hr⟩ := hr
        refine rr_callVq (as := [.int l2, .int 13]) (st := []) (mc' := 0) (ms' := 0) C dX11_reads_102 iv_X11_361 (by decide) e137 rfl (Nat.le_of_ble_eq_true rfl) (c_X11_copies l0 l2 13 (by omega) e139) (fun v_ h_ n_ q_ => ?_)
        obtain ⟨q1_, q2_, q3_⟩ := q_
        subst v_; subst h_; subst n_
        show WW W0 G 7 _ _ _ 105 [some (.ref l0), some (.int l1), some (.int l2), some (.int 0), some (.int 1), some (.int v35.1), none] [] v138 n _ _
        refine rr_aload_n (i := 0) C dX11_reads_105 rfl rfl ?_
        replace hr := Option.bind_eq_some_iff.mp hr
        obtain ⟨v140, e141, hr⟩ := hr
        refine rr_rdR C dX11_reads_106 fl_X11_69 e141 ?_
        refine rr_bipush (v := 13) C dX11_reads_109 (by decide) ?_
        replace hr := Option.bind_eq_some_iff.mp hr
        obtain ⟨a142, e143, hr⟩ := hr
        subst e143
        replace hr := Option.bind_eq_some_iff.mp hr
        obtain ⟨v144, e145, hr⟩ := hr
        refine rr_ldI C dX11_reads_111 e145 ?_
        refine rr_istore_n (i := 3) C dX11_reads_112 rfl (by decide) ?_
        show WW W0 G 7 _ _ _ 113 [some (.ref l0), some (.int l1), some (.int l2), some (.int v144), some (.int 1), some (.int v35.1), none] [] v138 n _ _
        refine rr_iconst (v := 0) C dX11_reads_113 (by decide) ?_
        refine rr_istore C dX11_reads_114 (by decide) ?_
        show WW W0 G 7 _ _ _ 116 [some (.ref l0), some (.int l1), some (.int l2), some (.int v144), some (.int 1), some (.int v35.1), some (.int 0)] [] v138 n _ _
        replace hr := Option.bind_eq_some_iff.mp hr
        obtain ⟨v146, e147, hr⟩ := hr
        refine rr_keep [true, false, false, true, true, true, true] (w_X11_reads_116 C (by omega) l0 v144 1 v35.1 K 0 v138 e147 ?_)
        show WW W0 G 7 _ _ _ 138 [some (.ref l0), none, none, some (.int v144), some (.int 1), some (.int v35.1), none] [] v146 n _ _
        refine rr_iconst (v := 0) C dX11_reads_138 (by decide) ?_
        refine rr_istore C dX11_reads_139 (by decide) ?_
        show WW W0 G 7 _ _ _ 141 [some (.ref l0), none, none, some (.int v144), some (.int 1), some (.int v35.1), some (.int 0)] [] v146 n _ _
        refine rr_aload_n (i := 0) C dX11_reads_141 rfl rfl ?_
        replace hr := Option.bind_eq_some_iff.mp hr
        obtain ⟨u148, e149, hr⟩ := hr
        replace hr := Option.bind_eq_some_iff.mp hr
        obtain ⟨v150, e151, hr⟩ := hr
        refine rr_callVq (as := []) (st := []) (mc' := 0) (ms' := 0) C dX11_reads_142 iv_X11_227 (by decide) e149 rfl (Nat.le_of_ble_eq_true rfl) (c_X11_blanks l0 (by omega) e151) (fun v_ h_ n_ q_ => ?_)
        obtain ⟨q1_, q2_, q3_⟩ := q_
        subst v_; subst h_; subst n_
        show WW W0 G 7 _ _ _ 145 [some (.ref l0), none, none, some (.int v144), some (.int 1), some (.int v35.1), some (.int 0)] [] v150 n _ _
        replace hr := Option.bind_eq_some_iff.mp hr
        obtain ⟨v152, e153, hr⟩ := hr
        refine rr_keep [true, false, false, true, true, true, true] (w_X11_reads_145 C (by omega) l0 v144 v35.1 K 1 0 v150 e153 ?_)
        show WW W0 G 7 _ _ _ 226 [some (.ref l0), none, none, some (.int v144), some (.int v152.1), none, none] [] v152.2 n _ _
        refine rr_aload_n (i := 0) C dX11_reads_226 rfl rfl ?_
        refine rr_iload C dX11_reads_227 rfl ?_
        refine rr_if_eq (tgt := 236) C dX11_reads_229 (by decide) (fun c229_ => ?_) (fun c229_ => ?_)
        · replace hr := (if_pos c229_).symm.trans hr
          refine rr_aload_n (i := 0) C dX11_reads_236 rfl rfl ?_
          replace hr := Option.bind_eq_some_iff.mp hr
          obtain ⟨v154, e155, hr⟩ := hr
          refine rr_rdI C dX11_reads_237 fl_X11_221 e155 ?_
          replace hr := Option.bind_eq_some_iff.mp hr
          obtain ⟨h156, e157, hr⟩ := hr
          refine rr_wrF C dX11_reads_240 fp_X11_65 rfl rfl e157 ?_
          refine rr_iload C dX11_reads_243 rfl ?_
          refine rr_if_eq (tgt := 253) C dX11_reads_245 (by decide) (fun c245_ => ?_) (fun c245_ => ?_)
          · replace hr := (if_pos c245_).symm.trans hr
            refine rr_iload C dX11_reads_253 rfl ?_
            replace hr := Option.bind_eq_some_iff.mp hr
            obtain ⟨u158, e159, hr⟩ := hr
            obtain rfl := Option.some.inj hr
            exact rr_iret (ty := .boolean) C dX11_reads_255 rfl (ckz_s e159) ⟨rfl, rfl, rfl⟩
          · replace hr := (if_neg c245_).symm.trans hr
            refine rr_aload_n (i := 0) C dX11_reads_248 rfl rfl ?_
            refine rr_iload_n (i := 3) C dX11_reads_249 rfl rfl ?_
            replace hr := Option.bind_eq_some_iff.mp hr
            obtain ⟨u160, e161, hr⟩ := hr
            replace hr := Option.bind_eq_some_iff.mp hr
            obtain ⟨v162, e163, hr⟩ := hr
            refine rr_callVq (as := [.int v144]) (st := []) (mc' := 0) (ms' := 0) C dX11_reads_250 iv_X11_373 (by decide) e161 rfl (Nat.le_of_ble_eq_true rfl) (c_X11_closes l0 v144 (by omega) e163) (fun v_ h_ n_ q_ => ?_)
            obtain ⟨q1_, q2_, q3_⟩ := q_
            subst v_; subst h_; subst n_
            show WW W0 G 7 _ _ _ 253 [some (.ref l0), none, none, some (.int v144), some (.int v152.1), none, none] [] v162 n _ _
            refine rr_iload C dX11_reads_253 rfl ?_
            replace hr := Option.bind_eq_some_iff.mp hr
            obtain ⟨u164, e165, hr⟩ := hr
            obtain rfl := Option.some.inj hr
            exact rr_iret (ty := .boolean) C dX11_reads_255 rfl (ckz_s e165) ⟨rfl, rfl, rfl⟩
        · replace hr := (if_neg c229_).symm.trans hr
          refine rr_iconst (v := (-1)) C dX11_reads_232 (by decide) ?_
          refine rr_goto (tgt := 240) C dX11_reads_233 (by decide) ?_
          replace hr := Option.bind_eq_some_iff.mp hr
          obtain ⟨h166, e167, hr⟩ := hr
          refine rr_wrF C dX11_reads_240 fp_X11_65 rfl rfl e167 ?_
          refine rr_iload C dX11_reads_243 rfl ?_
          refine rr_if_eq (tgt := 253) C dX11_reads_245 (by decide) (fun c245_ => ?_) (fun c245_ => ?_)
          · replace hr := (if_pos c245_).symm.trans hr
            refine rr_iload C dX11_reads_253 rfl ?_
            replace hr := Option.bind_eq_some_iff.mp hr
            obtain ⟨u168, e169, hr⟩ := hr
            obtain rfl := Option.some.inj hr
            exact rr_iret (ty := .boolean) C dX11_reads_255 rfl (ckz_s e169) ⟨rfl, rfl, rfl⟩
          · replace hr := (if_neg c245_).symm.trans hr
            refine rr_aload_n (i := 0) C dX11_reads_248 rfl rfl ?_
            refine rr_iload_n (i := 3) C dX11_reads_249 rfl rfl ?_
            replace hr := Option.bind_eq_some_iff.mp hr
            obtain ⟨u170, e171, hr⟩ := hr
            replace hr := Option.bind_eq_some_iff.mp hr
            obtain ⟨v172, e173, hr⟩ := hr
            refine rr_callVq (as := [.int v144]) (st := []) (mc' := 0) (ms' := 0) C dX11_reads_250 iv_X11_373 (by decide) e171 rfl (Nat.le_of_ble_eq_true rfl) (c_X11_closes l0 v144 (by omega) e173) (fun v_ h_ n_ q_ => ?_)
            obtain ⟨q1_, q2_, q3_⟩ := q_
            subst v_; subst h_; subst n_
            show WW W0 G 7 _ _ _ 253 [some (.ref l0), none, none, some (.int v144), some (.int v152.1), none, none] [] v172 n _ _
            refine rr_iload C dX11_reads_253 rfl ?_
            replace hr := Option.bind_eq_some_iff.mp hr
            obtain ⟨u174, e175, hr⟩ := hr
            obtain rfl := Option.some.inj hr
            exact rr_iret (ty := .boolean) C dX11_reads_255 rfl (ckz_s e175) ⟨rfl, rfl, rfl⟩
  · replace hr := (if_neg c72_).symm.trans hr
    refine rr_aload_n (i := 0) C dX11_reads_75 rfl rfl ?_
    refine rr_bipush (v := 59) C dX11_reads_76 (by decide) ?_
    replace hr := Option.bind_eq_some_iff.mp hr
    obtain ⟨u176, e177, hr⟩ := hr
    replace hr := Option.bind_eq_some_iff.mp hr
    obtain ⟨v178, e179, hr⟩ := hr
    refine rr_callVq (as := [.int 59]) (st := []) (mc' := 0) (ms' := 0) C dX11_reads_78 iv_X11_281 (by decide) e177 rfl (Nat.le_of_ble_eq_true rfl) (c_X11_takesSign l0 59 (by omega) e179) (fun v_ h_ n_ q_ => ?_)
    obtain ⟨q1_, q2_, q3_⟩ := q_
    subst v_; subst h_; subst n_
    show WW W0 G 7 _ _ _ 81 [some (.ref l0), some (.int l1), some (.int l2), some (.int 0), some (.int 1), some (.int v35.1), none] [.int v178.1] v178.2 n _ _
    refine rr_istore C dX11_reads_81 (by decide) ?_
    show WW W0 G 7 _ _ _ 83 [some (.ref l0), some (.int l1), some (.int l2), some (.int 0), some (.int v178.1), some (.int v35.1), none] [] v178.2 n _ _
    refine rr_iload C dX11_reads_83 rfl ?_
    refine rr_if_eq (tgt := 113) C dX11_reads_85 (by decide) (fun c85_ => ?_) (fun c85_ => ?_)
    · replace hr := (if_pos c85_).symm.trans hr
      refine rr_iconst (v := 0) C dX11_reads_113 (by decide) ?_
      refine rr_istore C dX11_reads_114 (by decide) ?_
      show WW W0 G 7 _ _ _ 116 [some (.ref l0), some (.int l1), some (.int l2), some (.int 0), some (.int v178.1), some (.int v35.1), some (.int 0)] [] v178.2 n _ _
      replace hr := Option.bind_eq_some_iff.mp hr
      obtain ⟨v181, e182, hr⟩ := hr
      refine rr_keep [true, false, false, true, true, true, true] (w_X11_reads_116 C (by omega) l0 0 v178.1 v35.1 K 0 v178.2 e182 ?_)
      show WW W0 G 7 _ _ _ 138 [some (.ref l0), none, none, some (.int 0), some (.int v178.1), some (.int v35.1), none] [] v181 n _ _
      refine rr_iconst (v := 0) C dX11_reads_138 (by decide) ?_
      refine rr_istore C dX11_reads_139 (by decide) ?_
      show WW W0 G 7 _ _ _ 141 [some (.ref l0), none, none, some (.int 0), some (.int v178.1), some (.int v35.1), some (.int 0)] [] v181 n _ _
      refine rr_aload_n (i := 0) C dX11_reads_141 rfl rfl ?_
      replace hr := Option.bind_eq_some_iff.mp hr
      obtain ⟨u183, e184, hr⟩ := hr
      replace hr := Option.bind_eq_some_iff.mp hr
      obtain ⟨v185, e186, hr⟩ := hr
      refine rr_callVq (as := []) (st := []) (mc' := 0) (ms' := 0) C dX11_reads_142 iv_X11_227 (by decide) e184 rfl (Nat.le_of_ble_eq_true rfl) (c_X11_blanks l0 (by omega) e186) (fun v_ h_ n_ q_ => ?_)
      obtain ⟨q1_, q2_, q3_⟩ := q_
      subst v_; subst h_; subst n_
      show WW W0 G 7 _ _ _ 145 [some (.ref l0), none, none, some (.int 0), some (.int v178.1), some (.int v35.1), some (.int 0)] [] v185 n _ _
      replace hr := Option.bind_eq_some_iff.mp hr
      obtain ⟨v187, e188, hr⟩ := hr
      refine rr_keep [true, false, false, true, true, true, true] (w_X11_reads_145 C (by omega) l0 0 v35.1 K v178.1 0 v185 e188 ?_)
      show WW W0 G 7 _ _ _ 226 [some (.ref l0), none, none, some (.int 0), some (.int v187.1), none, none] [] v187.2 n _ _
      refine rr_aload_n (i := 0) C dX11_reads_226 rfl rfl ?_
      refine rr_iload C dX11_reads_227 rfl ?_
      refine rr_if_eq (tgt := 236) C dX11_reads_229 (by decide) (fun c229_ => ?_) (fun c229_ => ?_)
      · replace hr := (if_pos c229_).symm.trans hr
        refine rr_aload_n (i := 0) C dX11_reads_236 rfl rfl ?_
        replace hr := Option.bind_eq_some_iff.mp hr
        obtain ⟨v189, e190, hr⟩ := hr
        refine rr_rdI C dX11_reads_237 fl_X11_221 e190 ?_
        replace hr := Option.bind_eq_some_iff.mp hr
        obtain ⟨h191, e192, hr⟩ := hr
        refine rr_wrF C dX11_reads_240 fp_X11_65 rfl rfl e192 ?_
        refine rr_iload C dX11_reads_243 rfl ?_
        refine rr_if_eq (tgt := 253) C dX11_reads_245 (by decide) (fun c245_ => ?_) (fun c245_ => ?_)
        · replace hr := (if_pos c245_).symm.trans hr
          refine rr_iload C dX11_reads_253 rfl ?_
          replace hr := Option.bind_eq_some_iff.mp hr
          obtain ⟨u193, e194, hr⟩ := hr
          obtain rfl := Option.some.inj hr
          exact rr_iret (ty := .boolean) C dX11_reads_255 rfl (ckz_s e194) ⟨rfl, rfl, rfl⟩
        · replace hr := (if_neg c245_).symm.trans hr
          refine rr_aload_n (i := 0) C dX11_reads_248 rfl rfl ?_
          refine rr_iload_n (i := 3) C dX11_reads_249 rfl rfl ?_
          replace hr := Option.bind_eq_some_iff.mp hr
          obtain ⟨u195, e196, hr⟩ := hr
          replace hr := Option.bind_eq_some_iff.mp hr
          obtain ⟨v197, e198, hr⟩ := hr
          refine rr_callVq (as := [.int 0]) (st := []) (mc' := 0) (ms' := 0) C dX11_reads_250 iv_X11_373 (by decide) e196 rfl (Nat.le_of_ble_eq_true rfl) (c_X11_closes l0 0 (by omega) e198) (fun v_ h_ n_ q_ => ?_)
          obtain ⟨q1_, q2_, q3_⟩ := q_
          subst v_; subst h_; subst n_
          show WW W0 G 7 _ _ _ 253 [some (.ref l0), none, none, some (.int 0), some (.int v187.1), none, none] [] v197 n _ _
          refine rr_iload C dX11_reads_253 rfl ?_
          replace hr := Option.bind_eq_some_iff.mp hr
          obtain ⟨u199, e200, hr⟩ := hr
          obtain rfl := Option.some.inj hr
          exact rr_iret (ty := .boolean) C dX11_reads_255 rfl (ckz_s e200) ⟨rfl, rfl, rfl⟩
      · replace hr := (if_neg c229_).symm.trans hr
        refine rr_iconst (v := (-1)) C dX11_reads_232 (by decide) ?_
        refine rr_goto (tgt := 240) C dX11_reads_233 (by decide) ?_
        replace hr := Option.bind_eq_some_iff.mp hr
        obtain ⟨h201, e202, hr⟩ := hr
        refine rr_wrF C dX11_reads_240 fp_X11_65 rfl rfl e202 ?_
        refine rr_iload C dX11_reads_243 rfl ?_
        refine rr_if_eq (tgt := 253) C dX11_reads_245 (by decide) (fun c245_ => ?_) (fun c245_ => ?_)
        · replace hr := (if_pos c245_).symm.trans hr
          refine rr_iload C dX11_reads_253 rfl ?_
          replace hr := Option.bind_eq_some_iff.mp hr
          obtain ⟨u203, e204, hr⟩ := hr
          obtain rfl := Option.some.inj hr
          exact rr_iret (ty := .boolean) C dX11_reads_255 rfl (ckz_s e204) ⟨rfl, rfl, rfl⟩
        · replace hr := (if_neg c245_).symm.trans hr
          refine rr_aload_n (i := 0) C dX11_reads_248 rfl rfl ?_
          refine rr_iload_n (i := 3) C dX11_reads_249 rfl rfl ?_
          replace hr := Option.bind_eq_some_iff.mp hr
          obtain ⟨u205, e206, hr⟩ := hr
          replace hr := Option.bind_eq_some_iff.mp hr
          obtain ⟨v207, e208, hr⟩ := hr
          refine rr_callVq (as := [.int 0]) (st := []) (mc' := 0) (ms' := 0) C dX11_reads_250 iv_X11_373 (by decide) e206 rfl (Nat.le_of_ble_eq_true rfl) (c_X11_closes l0 0 (by omega) e208) (fun v_ h_ n_ q_ => ?_)
          obtain ⟨q1_, q2_, q3_⟩ := q_
          subst v_; subst h_; subst n_
          show WW W0 G 7 _ _ _ 253 [some (.ref l0), none, none, some (.int 0), some (.int v187.1), none, none] [] v207 n _ _
          refine rr_iload C dX11_reads_253 rfl ?_
          replace hr := Option.bind_eq_some_iff.mp hr
          obtain ⟨u209, e210, hr⟩ := hr
          obtain rfl := Option.some.inj hr
          exact rr_iret (ty := .boolean) C dX11_reads_255 rfl (ckz_s e210) ⟨rfl, rfl, rfl⟩
    · replace hr := (if_neg c85_).symm.trans hr
      refine rr_iload C dX11_reads_88 rfl ?_
      refine rr_if_eq (tgt := 113) C dX11_reads_90 (by decide) (fun c90_ => ?_) (fun c90_ => ?_)
      · replace hr := (if_pos c90_).symm.trans hr
        refine rr_iconst (v := 0) C dX11_reads_113 (by decide) ?_
        refine rr_istore C dX11_reads_114 (by decide) ?_
        show WW W0 G 7 _ _ _ 116 [some (.ref l0), some (.int l1), some (.int l2), some (.int 0), some (.int v178.1), some (.int v35.1), some (.int 0)] [] v178.2 n _ _
        replace hr := Option.bind_eq_some_iff.mp hr
        obtain ⟨v211, e212, hr⟩ := hr
        refine rr_keep [true, false, false, true, true, true, true] (w_X11_reads_116 C (by omega) l0 0 v178.1 v35.1 K 0 v178.2 e212 ?_)
        show WW W0 G 7 _ _ _ 138 [some (.ref l0), none, none, some (.int 0), some (.int v178.1), some (.int v35.1), none] [] v211 n _ _
        refine rr_iconst (v := 0) C dX11_reads_138 (by decide) ?_
        refine rr_istore C dX11_reads_139 (by decide) ?_
        show WW W0 G 7 _ _ _ 141 [some (.ref l0), none, none, some (.int 0), some (.int v178.1), some (.int v35.1), some (.int 0)] [] v211 n _ _
        refine rr_aload_n (i := 0) C dX11_reads_141 rfl rfl ?_
        replace hr := Option.bind_eq_some_iff.mp hr
        obtain ⟨u213, e214, hr⟩ := hr
        replace hr := Option.bind_eq_some_iff.mp hr
        obtain ⟨v215, e216, hr⟩ := hr
        refine rr_callVq (as := []) (st := []) (mc' := 0) (ms' := 0) C dX11_reads_142 iv_X11_227 (by decide) e214 rfl (Nat.le_of_ble_eq_true rfl) (c_X11_blanks l0 (by omega) e216) (fun v_ h_ n_ q_ => ?_)
        obtain ⟨q1_, q2_, q3_⟩ := q_
        subst v_; subst h_; subst n_
        show WW W0 G 7 _ _ _ 145 [some (.ref l0), none, none, some (.int 0), some (.int v178.1), some (.int v35.1), some (.int 0)] [] v215 n _ _
        replace hr := Option.bind_eq_some_iff.mp hr
        obtain ⟨v217, e218, hr⟩ := hr
        refine rr_keep [true, false, false, true, true, true, true] (w_X11_reads_145 C (by omega) l0 0 v35.1 K v178.1 0 v215 e218 ?_)
        show WW W0 G 7 _ _ _ 226 [some (.ref l0), none, none, some (.int 0), some (.int v217.1), none, none] [] v217.2 n _ _
        refine rr_aload_n (i := 0) C dX11_reads_226 rfl rfl ?_
        refine rr_iload C dX11_reads_227 rfl ?_
        refine rr_if_eq (tgt := 236) C dX11_reads_229 (by decide) (fun c229_ => ?_) (fun c229_ => ?_)
        · replace hr := (if_pos c229_).symm.trans hr
          refine rr_aload_n (i := 0) C dX11_reads_236 rfl rfl ?_
          replace hr := Option.bind_eq_some_iff.mp hr
          obtain ⟨v219, e220, hr⟩ := hr
          refine rr_rdI C dX11_reads_237 fl_X11_221 e220 ?_
          replace hr := Option.bind_eq_some_iff.mp hr
          obtain ⟨h221, e222, hr⟩ := hr
          refine rr_wrF C dX11_reads_240 fp_X11_65 rfl rfl e222 ?_
          refine rr_iload C dX11_reads_243 rfl ?_
          refine rr_if_eq (tgt := 253) C dX11_reads_245 (by decide) (fun c245_ => ?_) (fun c245_ => ?_)
          · replace hr := (if_pos c245_).symm.trans hr
            refine rr_iload C dX11_reads_253 rfl ?_
            replace hr := Option.bind_eq_some_iff.mp hr
            obtain ⟨u223, e224, hr⟩ := hr
            obtain rfl := Option.some.inj hr
            exact rr_iret (ty := .boolean) C dX11_reads_255 rfl (ckz_s e224) ⟨rfl, rfl, rfl⟩
          · replace hr := (if_neg c245_).symm.trans hr
            refine rr_aload_n (i := 0) C dX11_reads_248 rfl rfl ?_
            refine rr_iload_n (i := 3) C dX11_reads_249 rfl rfl ?_
            replace hr := Option.bind_eq_some_iff.mp hr
            obtain ⟨u225, e226, hr⟩ := hr
            replace hr := Option.bind_eq_some_iff.mp hr
            obtain ⟨v227, e228, hr⟩ := hr
            refine rr_callVq (as := [.int 0]) (st := []) (mc' := 0) (ms' := 0) C dX11_reads_250 iv_X11_373 (by decide) e226 rfl (Nat.le_of_ble_eq_true rfl) (c_X11_closes l0 0 (by omega) e228) (fun v_ h_ n_ q_ => ?_)
            obtain ⟨q1_, q2_, q3_⟩ := q_
            subst v_; subst h_; subst n_
            show WW W0 G 7 _ _ _ 253 [some (.ref l0), none, none, some (.int 0), some (.int v217.1), none, none] [] v227 n _ _
            refine rr_iload C dX11_reads_253 rfl ?_
            replace hr := Option.bind_eq_some_iff.mp hr
            obtain ⟨u229, e230, hr⟩ := hr
            obtain rfl := Option.some.inj hr
            exact rr_iret (ty := .boolean) C dX11_reads_255 rfl (ckz_s e230) ⟨rfl, rfl, rfl⟩
        · replace hr := (if_neg c229_).symm.trans hr
          refine rr_iconst (v := (-1)) C dX11_reads_232 (by decide) ?_
          refine rr_goto (tgt := 240) C dX11_reads_233 (by decide) ?_
          replace hr := Option.bind_eq_some_iff.mp hr
          obtain ⟨h231, e232, hr⟩ := hr
          refine rr_wrF C dX11_reads_240 fp_X11_65 rfl rfl e232 ?_
          refine rr_iload C dX11_reads_243 rfl ?_
          refine rr_if_eq (tgt := 253) C dX11_reads_245 (by decide) (fun c245_ => ?_) (fun c245_ => ?_)
          · replace hr := (if_pos c245_).symm.trans hr
            refine rr_iload C dX11_reads_253 rfl ?_
            replace hr := Option.bind_eq_some_iff.mp hr
            obtain ⟨u233, e234, hr⟩ := hr
            obtain rfl := Option.some.inj hr
            exact rr_iret (ty := .boolean) C dX11_reads_255 rfl (ckz_s e234) ⟨rfl, rfl, rfl⟩
          · replace hr := (if_neg c245_).symm.trans hr
            refine rr_aload_n (i := 0) C dX11_reads_248 rfl rfl ?_
            refine rr_iload_n (i := 3) C dX11_reads_249 rfl rfl ?_
            replace hr := Option.bind_eq_some_iff.mp hr
            obtain ⟨u235, e236, hr⟩ := hr
            replace hr := Option.bind_eq_some_iff.mp hr
            obtain ⟨v237, e238, hr⟩ := hr
            refine rr_callVq (as := [.int 0]) (st := []) (mc' := 0) (ms' := 0) C dX11_reads_250 iv_X11_373 (by decide) e236 rfl (Nat.le_of_ble_eq_true rfl) (c_X11_closes l0 0 (by omega) e238) (fun v_ h_ n_ q_ => ?_)
            obtain ⟨q1_, q2_, q3_⟩ := q_
            subst v_; subst h_; subst n_
            show WW W0 G 7 _ _ _ 253 [some (.ref l0), none, none, some (.int 0), some (.int v217.1), none, none] [] v237 n _ _
            refine rr_iload C dX11_reads_253 rfl ?_
            replace hr := Option.bind_eq_some_iff.mp hr
            obtain ⟨u239, e240, hr⟩ := hr
            obtain rfl := Option.some.inj hr
            exact rr_iret (ty := .boolean) C dX11_reads_255 rfl (ckz_s e240) ⟨rfl, rfl, rfl⟩
      · replace hr := (if_neg c90_).symm.trans hr
        refine rr_iload_n (i := 2) C dX11_reads_93 rfl rfl ?_
        refine rr_iconst (v := (-1)) C dX11_reads_94 (by decide) ?_
        refine rr_icmp_eq (tgt := 113) C dX11_reads_95 (by decide) (fun c95_ => ?_) (fun c95_ => ?_)
        · replace hr := (if_pos c95_).symm.trans hr
          refine rr_iconst (v := 0) C dX11_reads_113 (by decide) ?_
          refine rr_istore C dX11_reads_114 (by decide) ?_
          show WW W0 G 7 _ _ _ 116 [some (.ref l0), some (.int l1), some (.int l2), some (.int 0), some (.int v178.1), some (.int v35.1), some (.int 0)] [] v178.2 n _ _
          replace hr := Option.bind_eq_some_iff.mp hr
          obtain ⟨v241, e242, hr⟩ := hr
          refine rr_keep [true, false, false, true, true, true, true] (w_X11_reads_116 C (by omega) l0 0 v178.1 v35.1 K 0 v178.2 e242 ?_)
          show WW W0 G 7 _ _ _ 138 [some (.ref l0), none, none, some (.int 0), some (.int v178.1), some (.int v35.1), none] [] v241 n _ _
          refine rr_iconst (v := 0) C dX11_reads_138 (by decide) ?_
          refine rr_istore C dX11_reads_139 (by decide) ?_
          show WW W0 G 7 _ _ _ 141 [some (.ref l0), none, none, some (.int 0), some (.int v178.1), some (.int v35.1), some (.int 0)] [] v241 n _ _
          refine rr_aload_n (i := 0) C dX11_reads_141 rfl rfl ?_
          replace hr := Option.bind_eq_some_iff.mp hr
          obtain ⟨u243, e244, hr⟩ := hr
          replace hr := Option.bind_eq_some_iff.mp hr
          obtain ⟨v245, e246, hr⟩ := hr
          refine rr_callVq (as := []) (st := []) (mc' := 0) (ms' := 0) C dX11_reads_142 iv_X11_227 (by decide) e244 rfl (Nat.le_of_ble_eq_true rfl) (c_X11_blanks l0 (by omega) e246) (fun v_ h_ n_ q_ => ?_)
          obtain ⟨q1_, q2_, q3_⟩ := q_
          subst v_; subst h_; subst n_
          show WW W0 G 7 _ _ _ 145 [some (.ref l0), none, none, some (.int 0), some (.int v178.1), some (.int v35.1), some (.int 0)] [] v245 n _ _
          replace hr := Option.bind_eq_some_iff.mp hr
          obtain ⟨v247, e248, hr⟩ := hr
          refine rr_keep [true, false, false, true, true, true, true] (w_X11_reads_145 C (by omega) l0 0 v35.1 K v178.1 0 v245 e248 ?_)
          show WW W0 G 7 _ _ _ 226 [some (.ref l0), none, none, some (.int 0), some (.int v247.1), none, none] [] v247.2 n _ _
          refine rr_aload_n (i := 0) C dX11_reads_226 rfl rfl ?_
          refine rr_iload C dX11_reads_227 rfl ?_
          refine rr_if_eq (tgt := 236) C dX11_reads_229 (by decide) (fun c229_ => ?_) (fun c229_ => ?_)
          · replace hr := (if_pos c229_).symm.trans hr
            refine rr_aload_n (i := 0) C dX11_reads_236 rfl rfl ?_
            replace hr := Option.bind_eq_some_iff.mp hr
            obtain ⟨v249, e250, hr⟩ := hr
            refine rr_rdI C dX11_reads_237 fl_X11_221 e250 ?_
            replace hr := Option.bind_eq_some_iff.mp hr
            obtain ⟨h251, e252, hr⟩ := hr
            refine rr_wrF C dX11_reads_240 fp_X11_65 rfl rfl e252 ?_
            refine rr_iload C dX11_reads_243 rfl ?_
            refine rr_if_eq (tgt := 253) C dX11_reads_245 (by decide) (fun c245_ => ?_) (fun c245_ => ?_)
            · replace hr := (if_pos c245_).symm.trans hr
              refine rr_iload C dX11_reads_253 rfl ?_
              replace hr := Option.bind_eq_some_iff.mp hr
              obtain ⟨u253, e254, hr⟩ := hr
              obtain rfl := Option.some.inj hr
              exact rr_iret (ty := .boolean) C dX11_reads_255 rfl (ckz_s e254) ⟨rfl, rfl, rfl⟩
            · replace hr := (if_neg c245_).symm.trans hr
              refine rr_aload_n (i := 0) C dX11_reads_248 rfl rfl ?_
              refine rr_iload_n (i := 3) C dX11_reads_249 rfl rfl ?_
              replace hr := Option.bind_eq_some_iff.mp hr
              obtain ⟨u255, e256, hr⟩ := hr
              replace hr := Option.bind_eq_some_iff.mp hr
              obtain ⟨v257, e258, hr⟩ := hr
              refine rr_callVq (as := [.int 0]) (st := []) (mc' := 0) (ms' := 0) C dX11_reads_250 iv_X11_373 (by decide) e256 rfl (Nat.le_of_ble_eq_true rfl) (c_X11_closes l0 0 (by omega) e258) (fun v_ h_ n_ q_ => ?_)
              obtain ⟨q1_, q2_, q3_⟩ := q_
              subst v_; subst h_; subst n_
              show WW W0 G 7 _ _ _ 253 [some (.ref l0), none, none, some (.int 0), some (.int v247.1), none, none] [] v257 n _ _
              refine rr_iload C dX11_reads_253 rfl ?_
              replace hr := Option.bind_eq_some_iff.mp hr
              obtain ⟨u259, e260, hr⟩ := hr
              obtain rfl := Option.some.inj hr
              exact rr_iret (ty := .boolean) C dX11_reads_255 rfl (ckz_s e260) ⟨rfl, rfl, rfl⟩
          · replace hr := (if_neg c229_).symm.trans hr
            refine rr_iconst (v := (-1)) C dX11_reads_232 (by decide) ?_
            refine rr_goto (tgt := 240) C dX11_reads_233 (by decide) ?_
            replace hr := Option.bind_eq_some_iff.mp hr
            obtain ⟨h261, e262, hr⟩ := hr
            refine rr_wrF C dX11_reads_240 fp_X11_65 rfl rfl e262 ?_
            refine rr_iload C dX11_reads_243 rfl ?_
            refine rr_if_eq (tgt := 253) C dX11_reads_245 (by decide) (fun c245_ => ?_) (fun c245_ => ?_)
            · replace hr := (if_pos c245_).symm.trans hr
              refine rr_iload C dX11_reads_253 rfl ?_
              replace hr := Option.bind_eq_some_iff.mp hr
              obtain ⟨u263, e264, hr⟩ := hr
              obtain rfl := Option.some.inj hr
              exact rr_iret (ty := .boolean) C dX11_reads_255 rfl (ckz_s e264) ⟨rfl, rfl, rfl⟩
            · replace hr := (if_neg c245_).symm.trans hr
              refine rr_aload_n (i := 0) C dX11_reads_248 rfl rfl ?_
              refine rr_iload_n (i := 3) C dX11_reads_249 rfl rfl ?_
              replace hr := Option.bind_eq_some_iff.mp hr
              obtain ⟨u265, e266, hr⟩ := hr
              replace hr := Option.bind_eq_some_iff.mp hr
              obtain ⟨v267, e268, hr⟩ := hr
              refine rr_callVq (as := [.int 0]) (st := []) (mc' := 0) (ms' := 0) C dX11_reads_250 iv_X11_373 (by decide) e266 rfl (Nat.le_of_ble_eq_true rfl) (c_X11_closes l0 0 (by omega) e268) (fun v_ h_ n_ q_ => ?_)
              obtain ⟨q1_, q2_, q3_⟩ := q_
              subst v_; subst h_; subst n_
              show WW W0 G 7 _ _ _ 253 [some (.ref l0), none, none, some (.int 0), some (.int v247.1), none, none] [] v267 n _ _
              refine rr_iload C dX11_reads_253 rfl ?_
              replace hr := Option.bind_eq_some_iff.mp hr
              obtain ⟨u269, e270, hr⟩ := hr
              obtain rfl := Option.some.inj hr
              exact rr_iret (ty := .boolean) C dX11_reads_255 rfl (ckz_s e270) ⟨rfl, rfl, rfl⟩
        · replace hr := (if_neg c95_).symm.trans hr
          refine rr_aload_n (i := 0) C dX11_reads_98 rfl rfl ?_
          refine rr_iload_n (i := 2) C dX11_reads_99 rfl rfl ?_
          refine rr_bipush (v := 13) C dX11_reads_100 (by decide) ?_
          replace hr := Option.bind_eq_some_iff.mp hr
          obtain ⟨u271, e272, hr⟩ := hr
          replace hr := Option.bind_eq_some_iff.mp hr
          obtain ⟨v273, e274, hr⟩ := hr
          refine rr_callVq (as := [.int l2, .int 13]) (st := []) (mc' := 0) (ms' := 0) C dX11_reads_102 iv_X11_361 (by decide) e272 rfl (Nat.le_of_ble_eq_true rfl) (c_X11_copies l0 l2 13 (by omega) e274) (fun v_ h_ n_ q_ => ?_)
          obtain ⟨q1_, q2_, q3_⟩ := q_
          subst v_; subst h_; subst n_
          show WW W0 G 7 _ _ _ 105 [some (.ref l0), some (.int l1), some (.int l2), some (.int 0), some (.int v178.1), some (.int v35.1), none] [] v273 n _ _
          refine rr_aload_n (i := 0) C dX11_reads_105 rfl rfl ?_
          replace hr := Option.bind_eq_some_iff.mp hr
          obtain ⟨v275, e276, hr⟩ := hr
          refine rr_rdR C dX11_reads_106 fl_X11_69 e276 ?_
          refine rr_bipush (v := 13) C dX11_reads_109 (by decide) ?_
          replace hr := Option.bind_eq_some_iff.mp hr
          obtain ⟨a277, e278, hr⟩ := hr
          subst e278
          replace hr := Option.bind_eq_some_iff.mp hr
          obtain ⟨v279, e280, hr⟩ := hr
          refine rr_ldI C dX11_reads_111 e280 ?_
          refine rr_istore_n (i := 3) C dX11_reads_112 rfl (by decide) ?_
          show WW W0 G 7 _ _ _ 113 [some (.ref l0), some (.int l1), some (.int l2), some (.int v279), some (.int v178.1), some (.int v35.1), none] [] v273 n _ _
          refine rr_iconst (v := 0) C dX11_reads_113 (by decide) ?_
          refine rr_istore C dX11_reads_114 (by decide) ?_
          show WW W0 G 7 _ _ _ 116 [some (.ref l0), some (.int l1), some (.int l2), some (.int v279), some (.int v178.1), some (.int v35.1), some (.int 0)] [] v273 n _ _
          replace hr := Option.bind_eq_some_iff.mp hr
          obtain ⟨v281, e282, hr⟩ := hr
          refine rr_keep [true, false, false, true, true, true, true] (w_X11_reads_116 C (by omega) l0 v279 v178.1 v35.1 K 0 v273 e282 ?_)
          show WW W0 G 7 _ _ _ 138 [some (.ref l0), none, none, some (.int v279), some (.int v178.1), some (.int v35.1), none] [] v281 n _ _
          refine rr_iconst (v := 0) C dX11_reads_138 (by decide) ?_
          refine rr_istore C dX11_reads_139 (by decide) ?_
          show WW W0 G 7 _ _ _ 141 [some (.ref l0), none, none, some (.int v279), some (.int v178.1), some (.int v35.1), some (.int 0)] [] v281 n _ _
          refine rr_aload_n (i := 0) C dX11_reads_141 rfl rfl ?_
          replace hr := Option.bind_eq_some_iff.mp hr
          obtain ⟨u283, e284, hr⟩ := hr
          replace hr := Option.bind_eq_some_iff.mp hr
          obtain ⟨v285, e286, hr⟩ := hr
          refine rr_callVq (as := []) (st := []) (mc' := 0) (ms' := 0) C dX11_reads_142 iv_X11_227 (by decide) e284 rfl (Nat.le_of_ble_eq_true rfl) (c_X11_blanks l0 (by omega) e286) (fun v_ h_ n_ q_ => ?_)
          obtain ⟨q1_, q2_, q3_⟩ := q_
          subst v_; subst h_; subst n_
          show WW W0 G 7 _ _ _ 145 [some (.ref l0), none, none, some (.int v279), some (.int v178.1), some (.int v35.1), some (.int 0)] [] v285 n _ _
          replace hr := Option.bind_eq_some_iff.mp hr
          obtain ⟨v287, e288, hr⟩ := hr
          refine rr_keep [true, false, false, true, true, true, true] (w_X11_reads_145 C (by omega) l0 v279 v35.1 K v178.1 0 v285 e288 ?_)
          show WW W0 G 7 _ _ _ 226 [some (.ref l0), none, none, some (.int v279), some (.int v287.1), none, none] [] v287.2 n _ _
          refine rr_aload_n (i := 0) C dX11_reads_226 rfl rfl ?_
          refine rr_iload C dX11_reads_227 rfl ?_
          refine rr_if_eq (tgt := 236) C dX11_reads_229 (by decide) (fun c229_ => ?_) (fun c229_ => ?_)
          · replace hr := (if_pos c229_).symm.trans hr
            refine rr_aload_n (i := 0) C dX11_reads_236 rfl rfl ?_
            replace hr := Option.bind_eq_some_iff.mp hr
            obtain ⟨v289, e290, hr⟩ := hr
            refine rr_rdI C dX11_reads_237 fl_X11_221 e290 ?_
            replace hr := Option.bind_eq_some_iff.mp hr
            obtain ⟨h291, e292, hr⟩ := hr
            refine rr_wrF C dX11_reads_240 fp_X11_65 rfl rfl e292 ?_
            refine rr_iload C dX11_reads_243 rfl ?_
            refine rr_if_eq (tgt := 253) C dX11_reads_245 (by decide) (fun c245_ => ?_) (fun c245_ => ?_)
            · replace hr := (if_pos c245_).symm.trans hr
              refine rr_iload C dX11_reads_253 rfl ?_
              replace hr := Option.bind_eq_some_iff.mp hr
              obtain ⟨u293, e294, hr⟩ := hr
              obtain rfl := Option.some.inj hr
              exact rr_iret (ty := .boolean) C dX11_reads_255 rfl (ckz_s e294) ⟨rfl, rfl, rfl⟩
            · replace hr := (if_neg c245_).symm.trans hr
              refine rr_aload_n (i := 0) C dX11_reads_248 rfl rfl ?_
              refine rr_iload_n (i := 3) C dX11_reads_249 rfl rfl ?_
              replace hr := Option.bind_eq_some_iff.mp hr
              obtain ⟨u295, e296, hr⟩ := hr
              replace hr := Option.bind_eq_some_iff.mp hr
              obtain ⟨v297, e298, hr⟩ := hr
              refine rr_callVq (as := [.int v279]) (st := []) (mc' := 0) (ms' := 0) C dX11_reads_250 iv_X11_373 (by decide) e296 rfl (Nat.le_of_ble_eq_true rfl) (c_X11_closes l0 v279 (by omega) e298) (fun v_ h_ n_ q_ => ?_)
              obtain ⟨q1_, q2_, q3_⟩ := q_
              subst v_; subst h_; subst n_
              show WW W0 G 7 _ _ _ 253 [some (.ref l0), none, none, some (.int v279), some (.int v287.1), none, none] [] v297 n _ _
              refine rr_iload C dX11_reads_253 rfl ?_
              replace hr := Option.bind_eq_some_iff.mp hr
              obtain ⟨u299, e300, hr⟩ := hr
              obtain rfl := Option.some.inj hr
              exact rr_iret (ty := .boolean) C dX11_reads_255 rfl (ckz_s e300) ⟨rfl, rfl, rfl⟩
          · replace hr := (if_neg c229_).symm.trans hr
            refine rr_iconst (v := (-1)) C dX11_reads_232 (by decide) ?_
            refine rr_goto (tgt := 240) C dX11_reads_233 (by decide) ?_
            replace hr := Option.bind_eq_some_iff.mp hr
            obtain ⟨h301, e302, hr⟩ := hr
            refine rr_wrF C dX11_reads_240 fp_X11_65 rfl rfl e302 ?_
            refine rr_iload C dX11_reads_243 rfl ?_
            refine rr_if_eq (tgt := 253) C dX11_reads_245 (by decide) (fun c245_ => ?_) (fun c245_ => ?_)
            · replace hr := (if_pos c245_).symm.trans hr
              refine rr_iload C dX11_reads_253 rfl ?_
              replace hr := Option.bind_eq_some_iff.mp hr
              obtain ⟨u303, e304, hr⟩ := hr
              obtain rfl := Option.some.inj hr
              exact rr_iret (ty := .boolean) C dX11_reads_255 rfl (ckz_s e304) ⟨rfl, rfl, rfl⟩
            · replace hr := (if_neg c245_).symm.trans hr
              refine rr_aload_n (i := 0) C dX11_reads_248 rfl rfl ?_
              refine rr_iload_n (i := 3) C dX11_reads_249 rfl rfl ?_
              replace hr := Option.bind_eq_some_iff.mp hr
              obtain ⟨u305, e306, hr⟩ := hr
              replace hr := Option.bind_eq_some_iff.mp hr
              obtain ⟨v307, e308, hr⟩ := hr
              refine rr_callVq (as := [.int v279]) (st := []) (mc' := 0) (ms' := 0) C dX11_reads_250 iv_X11_373 (by decide) e306 rfl (Nat.le_of_ble_eq_true rfl) (c_X11_closes l0 v279 (by omega) e308) (fun v_ h_ n_ q_ => ?_)
              obtain ⟨q1_, q2_, q3_⟩ := q_
              subst v_; subst h_; subst n_
              show WW W0 G 7 _ _ _ 253 [some (.ref l0), none, none, some (.int v279), some (.int v287.1), none, none] [] v307 n _ _
              refine rr_iload C dX11_reads_253 rfl ?_
              replace hr := Option.bind_eq_some_iff.mp hr
              obtain ⟨u309, e310, hr⟩ := hr
              obtain rfl := Option.some.inj hr
              exact rr_iret (ty := .boolean) C dX11_reads_255 rfl (ckz_s e310) ⟨rfl, rfl, rfl⟩
def lp_X11_inForce_5 (K : Nat) (h : mm_H) (n : Nat) (l0 : Nat) (l1 : Int32) (l2 : Int32) : Nat → Int32 → Int32 → Option (Int32)
  | 0, _, _ => none
  | k_ + 1, l3, l4 =>
    (rdI h n l0 10 24).bind fun v1 =>
    if v1 ≤ l4 then
      some (l3)
    else
    (rdR h n l0 10 34).bind fun v3 =>
    v3.bind fun a5 =>
    (ldI h n a5 l4).bind fun v7 =>
    if l2 < v7 then
      lp_X11_inForce_5 K h n l0 l1 l2 k_ l3 (l4 + 1)
    else
    (rdR h n l0 10 33).bind fun v9 =>
    v9.bind fun a11 =>
    (ldI h n a11 l4).bind fun v13 =>
    if l1 < v13 then
      lp_X11_inForce_5 K h n l0 l1 l2 k_ l3 (l4 + 1)
    else
    if l3 = (-1) then
      lp_X11_inForce_5 K h n l0 l1 l2 k_ l4 (l4 + 1)
    else
    (rdR h n l0 10 33).bind fun v15 =>
    v15.bind fun a17 =>
    (ldI h n a17 l4).bind fun v19 =>
    (rdR h n l0 10 33).bind fun v21 =>
    v21.bind fun a23 =>
    (ldI h n a23 l3).bind fun v25 =>
    if v19 < v25 then
      lp_X11_inForce_5 K h n l0 l1 l2 k_ l3 (l4 + 1)
    else
    lp_X11_inForce_5 K h n l0 l1 l2 k_ l4 (l4 + 1)
def q_X11_inForce (K : Nat) (h : mm_H) (n : Nat) (l0 : Nat) (l1 : Int32) (l2 : Int32) : Option (Int32) :=
  (lp_X11_inForce_5 K h n l0 l1 l2 K (-1) 0).bind fun v27 =>
  some v27
set_option maxRecDepth 100000 in
set_option maxHeartbeats 4000000 in
theorem w_X11_inForce_5 {K : Nat} {W0 : mm_X} {G : mm_G} {mc ms kc ks : Nat} {Q_ : State → Prop} {h : mm_H} {n : Nat} (C : mm_C W0 G cX11_inForce yX11_inForce.cls 5 mc ms (some .int) 0 yX11_inForce.name) (hn : 48 ≤ n) (l0 : Nat) (l1 : Int32) (l2 : Int32) : ∀ (k_ : Nat) (l3 : Int32) (l4 : Int32) {r_ : Int32} (hr : lp_X11_inForce_5 K h n l0 l1 l2 k_ l3 l4 = some r_) (hx0 : WW W0 G 5 mc ms Q_ 66 [none, none, none, some (.int r_), none] [] h n kc ks), WW W0 G 5 mc ms Q_ 5 [some (.ref l0), some (.int l1), some (.int l2), some (.int l3), some (.int l4)] [] h n kc ks := by
  intro k_
  induction k_ with
  | zero =>
    intro l3 l4 r_ hr
    cases hr
  | succ k_ ih_ =>
    intro l3 l4 r_ hr hx0
    unfold lp_X11_inForce_5 at hr
    refine rr_iload C dX11_inForce_5 rfl ?_
    refine rr_aload_n (i := 0) C dX11_inForce_7 rfl rfl ?_
    replace hr := Option.bind_eq_some_iff.mp hr
    obtain ⟨v1, e2, hr⟩ := hr
    refine rr_rdI C dX11_inForce_8 fl_X11_380 e2 ?_
    refine rr_icmp_ge (tgt := 66) C dX11_inForce_11 (by decide) (fun c11_ => ?_) (fun c11_ => ?_)
    · replace hr := (if_pos c11_).symm.trans hr
      obtain rfl := Option.some.inj hr
      exact rr_keep [false, false, false, true, false] (hx0)
    · replace hr := (if_neg c11_).symm.trans hr
      refine rr_aload_n (i := 0) C dX11_inForce_14 rfl rfl ?_
      replace hr := Option.bind_eq_some_iff.mp hr
      obtain ⟨v3, e4, hr⟩ := hr
      refine rr_rdR C dX11_inForce_15 fl_X11_75 e4 ?_
      refine rr_iload C dX11_inForce_18 rfl ?_
      replace hr := Option.bind_eq_some_iff.mp hr
      obtain ⟨a5, e6, hr⟩ := hr
      subst e6
      replace hr := Option.bind_eq_some_iff.mp hr
      obtain ⟨v7, e8, hr⟩ := hr
      refine rr_ldI C dX11_inForce_20 e8 ?_
      refine rr_iload_n (i := 2) C dX11_inForce_21 rfl rfl ?_
      refine rr_icmp_gt (tgt := 60) C dX11_inForce_22 (by decide) (fun c22_ => ?_) (fun c22_ => ?_)
      · replace hr := (if_pos c22_).symm.trans hr
        refine rr_iinc (v := l4 + 1) C dX11_inForce_60 rfl rfl ?_
        show WW W0 G 5 _ _ _ 63 [some (.ref l0), some (.int l1), some (.int l2), some (.int l3), some (.int (l4 + 1))] [] h n _ _
        refine rr_goto (tgt := 5) C dX11_inForce_63 (by decide) ?_
        exact rr_keep [true, true, true, true, true] (ih_ _ _ hr hx0)
      · replace hr := (if_neg c22_).symm.trans hr
        refine rr_aload_n (i := 0) C dX11_inForce_25 rfl rfl ?_
        replace hr := Option.bind_eq_some_iff.mp hr
        obtain ⟨v9, e10, hr⟩ := hr
        refine rr_rdR C dX11_inForce_26 fl_X11_72 e10 ?_
        refine rr_iload C dX11_inForce_29 rfl ?_
        replace hr := Option.bind_eq_some_iff.mp hr
        obtain ⟨a11, e12, hr⟩ := hr
        subst e12
        replace hr := Option.bind_eq_some_iff.mp hr
        obtain ⟨v13, e14, hr⟩ := hr
        refine rr_ldI C dX11_inForce_31 e14 ?_
        refine rr_iload_n (i := 1) C dX11_inForce_32 rfl rfl ?_
        refine rr_icmp_gt (tgt := 60) C dX11_inForce_33 (by decide) (fun c33_ => ?_) (fun c33_ => ?_)
        · replace hr := (if_pos c33_).symm.trans hr
          refine rr_iinc (v := l4 + 1) C dX11_inForce_60 rfl rfl ?_
          show WW W0 G 5 _ _ _ 63 [some (.ref l0), some (.int l1), some (.int l2), some (.int l3), some (.int (l4 + 1))] [] h n _ _
          refine rr_goto (tgt := 5) C dX11_inForce_63 (by decide) ?_
          exact rr_keep [true, true, true, true, true] (ih_ _ _ hr hx0)
        · replace hr := (if_neg c33_).symm.trans hr
          refine rr_iload_n (i := 3) C dX11_inForce_36 rfl rfl ?_
          refine rr_iconst (v := (-1)) C dX11_inForce_37 (by decide) ?_
          refine rr_icmp_eq (tgt := 57) C dX11_inForce_38 (by decide) (fun c38_ => ?_) (fun c38_ => ?_)
          · replace hr := (if_pos c38_).symm.trans hr
            refine rr_iload C dX11_inForce_57 rfl ?_
            refine rr_istore_n (i := 3) C dX11_inForce_59 rfl (by decide) ?_
            show WW W0 G 5 _ _ _ 60 [some (.ref l0), some (.int l1), some (.int l2), some (.int l4), some (.int l4)] [] h n _ _
            refine rr_iinc (v := l4 + 1) C dX11_inForce_60 rfl rfl ?_
            show WW W0 G 5 _ _ _ 63 [some (.ref l0), some (.int l1), some (.int l2), some (.int l4), some (.int (l4 + 1))] [] h n _ _
            refine rr_goto (tgt := 5) C dX11_inForce_63 (by decide) ?_
            exact rr_keep [true, true, true, true, true] (ih_ _ _ hr hx0)
          · replace hr := (if_neg c38_).symm.trans hr
            refine rr_aload_n (i := 0) C dX11_inForce_41 rfl rfl ?_
            replace hr := Option.bind_eq_some_iff.mp hr
            obtain ⟨v15, e16, hr⟩ := hr
            refine rr_rdR C dX11_inForce_42 fl_X11_72 e16 ?_
            refine rr_iload C dX11_inForce_45 rfl ?_
            replace hr := Option.bind_eq_some_iff.mp hr
            obtain ⟨a17, e18, hr⟩ := hr
            subst e18
            replace hr := Option.bind_eq_some_iff.mp hr
            obtain ⟨v19, e20, hr⟩ := hr
            refine rr_ldI C dX11_inForce_47 e20 ?_
            refine rr_aload_n (i := 0) C dX11_inForce_48 rfl rfl ?_
            replace hr := Option.bind_eq_some_iff.mp hr
            obtain ⟨v21, e22, hr⟩ := hr
            refine rr_rdR C dX11_inForce_49 fl_X11_72 e22 ?_
            refine rr_iload_n (i := 3) C dX11_inForce_52 rfl rfl ?_
            replace hr := Option.bind_eq_some_iff.mp hr
            obtain ⟨a23, e24, hr⟩ := hr
            subst e24
            replace hr := Option.bind_eq_some_iff.mp hr
            obtain ⟨v25, e26, hr⟩ := hr
            refine rr_ldI C dX11_inForce_53 e26 ?_
            refine rr_icmp_lt (tgt := 60) C dX11_inForce_54 (by decide) (fun c54_ => ?_) (fun c54_ => ?_)
            · replace hr := (if_pos c54_).symm.trans hr
              refine rr_iinc (v := l4 + 1) C dX11_inForce_60 rfl rfl ?_
              show WW W0 G 5 _ _ _ 63 [some (.ref l0), some (.int l1), some (.int l2), some (.int l3), some (.int (l4 + 1))] [] h n _ _
              refine rr_goto (tgt := 5) C dX11_inForce_63 (by decide) ?_
              exact rr_keep [true, true, true, true, true] (ih_ _ _ hr hx0)
            · replace hr := (if_neg c54_).symm.trans hr
              refine rr_iload C dX11_inForce_57 rfl ?_
              refine rr_istore_n (i := 3) C dX11_inForce_59 rfl (by decide) ?_
              show WW W0 G 5 _ _ _ 60 [some (.ref l0), some (.int l1), some (.int l2), some (.int l4), some (.int l4)] [] h n _ _
              refine rr_iinc (v := l4 + 1) C dX11_inForce_60 rfl rfl ?_
              show WW W0 G 5 _ _ _ 63 [some (.ref l0), some (.int l1), some (.int l2), some (.int l4), some (.int (l4 + 1))] [] h n _ _
              refine rr_goto (tgt := 5) C dX11_inForce_63 (by decide) ?_
              exact rr_keep [true, true, true, true, true] (ih_ _ _ hr hx0)
set_option maxRecDepth 100000 in
set_option maxHeartbeats 4000000 in
theorem c_X11_inForce {K : Nat} {G : mm_G} {l : Launch} {h : mm_H} {n : Nat} (l0 : Nat) (l1 : Int32) (l2 : Int32) {r_ : Int32} (hn : 48 ≤ n) (hr : q_X11_inForce K h n l0 l1 l2 = some r_) : Sp G l yX11_inForce cX11_inForce 5 (some .int) 0 0 0 [.ref l0, .int l1, .int l2] h n (fun v h' n' => v = some (.int r_) ∧ h' = h ∧ n' = n) := by
  refine Sp_of (by decide +kernel) (Nat.le_of_ble_eq_true rfl) hn ?_
  intro W0 hwl C
  subst hwl
  unfold q_X11_inForce at hr
  show WW W0 G 5 0 0 _ 0 [some (.ref l0), some (.int l1), some (.int l2), none, none] [] h n 0 0
  refine rr_iconst (v := (-1)) C dX11_inForce_0 (by decide) ?_
  refine rr_istore_n (i := 3) C dX11_inForce_1 rfl (by decide) ?_
  show WW W0 G 5 _ _ _ 2 [some (.ref l0), some (.int l1), some (.int l2), some (.int (-1)), none] [] h n _ _
  refine rr_iconst (v := 0) C dX11_inForce_2 (by decide) ?_
  refine rr_istore C dX11_inForce_3 (by decide) ?_
  show WW W0 G 5 _ _ _ 5 [some (.ref l0), some (.int l1), some (.int l2), some (.int (-1)), some (.int 0)] [] h n _ _
  replace hr := Option.bind_eq_some_iff.mp hr
  obtain ⟨v27, e28, hr⟩ := hr
  refine rr_keep [true, true, true, true, true] (w_X11_inForce_5 C (by omega) l0 l1 l2 K (-1) 0 e28 ?_)
  show WW W0 G 5 _ _ _ 66 [none, none, none, some (.int v27), none] [] h n _ _
  refine rr_iload_n (i := 3) C dX11_inForce_66 rfl rfl ?_
  obtain rfl := Option.some.inj hr
  exact rr_iret (ty := .int) C dX11_inForce_67 rfl rfl ⟨rfl, rfl, rfl⟩
def q_X11_rules (K : Nat) (h : mm_H) (n : Nat) (l0 : Nat) (l1 : Int32) (l2 : Int32) : Option (Int32 × mm_H) :=
  (rdI h n l0 10 26).bind fun v1 =>
  (q_X11_isIn K h n l1 0 v1).bind fun v3 =>
  if v3 = 0 then
    some ((-2), h)
  else
  (q_X11_isReview K h n l2).bind fun v5 =>
  if v5 = 0 then
    some ((-2), h)
  else
  (rdI h n l0 10 24).bind fun v7 =>
  if v7 = 8 then
    some ((-3), h)
  else
  (rdI h n l0 10 0).bind fun v9 =>
  (ckq h n l0 10).bind fun u11 =>
  (q_X11_inForce K h n l0 l2 v9).bind fun v13 =>
  (ckq h n l0 10).bind fun u15 =>
  (q_X11_reads K h n l0 l1 v13).bind fun v17 =>
  if v17.1 = 0 then
    some ((-1), v17.2)
  else
  (rdI v17.2 n l0 10 24).bind fun v19 =>
  (ckq v17.2 n l0 10).bind fun u21 =>
  (q_X11_copies K v17.2 n l0 13 v19).bind fun v23 =>
  (rdR v23 n l0 10 33).bind fun v25 =>
  (rdI v23 n l0 10 24).bind fun v27 =>
  v25.bind fun a29 =>
  (stI v23 n a29 v27 l2).bind fun h31 =>
  (rdR h31 n l0 10 34).bind fun v33 =>
  (rdI h31 n l0 10 24).bind fun v35 =>
  (rdI h31 n l0 10 0).bind fun v37 =>
  v33.bind fun a39 =>
  (stI h31 n a39 v35 v37).bind fun h41 =>
  (rdI h41 n l0 10 24).bind fun v43 =>
  (wrF h41 n l0 10 24 (.int (v43 + 1))).bind fun h45 =>
  (rdI h45 n l0 10 24).bind fun v47 =>
  some (v47 - 1, h45)
set_option maxRecDepth 100000 in
set_option maxHeartbeats 4000000 in
theorem c_X11_rules {K : Nat} {G : mm_G} {l : Launch} {h : mm_H} {n : Nat} (l0 : Nat) (l1 : Int32) (l2 : Int32) {r_ : Int32 × mm_H} (hn : 48 ≤ n) (hr : q_X11_rules K h n l0 l1 l2 = some r_) : Sp G l yX11_rules cX11_rules 3 (some .int) 54 0 0 [.ref l0, .int l1, .int l2] h n (fun v h' n' => v = some (.int r_.1) ∧ h' = r_.2 ∧ n' = n) := by
  refine Sp_of (by decide +kernel) (Nat.le_of_ble_eq_true rfl) hn ?_
  intro W0 hwl C
  subst hwl
  unfold q_X11_rules at hr
  show WW W0 G 3 0 0 _ 0 [some (.ref l0), some (.int l1), some (.int l2)] [] h n 0 0
  refine rr_iload_n (i := 1) C dX11_rules_0 rfl rfl ?_
  refine rr_iconst (v := 0) C dX11_rules_1 (by decide) ?_
  refine rr_aload_n (i := 0) C dX11_rules_2 rfl rfl ?_
  replace hr := Option.bind_eq_some_iff.mp hr
  obtain ⟨v1, e2, hr⟩ := hr
  refine rr_rdI C dX11_rules_3 fl_X11_214 e2 ?_
  replace hr := Option.bind_eq_some_iff.mp hr
  obtain ⟨v3, e4, hr⟩ := hr
  refine rr_callS (as := [.int l1, .int 0, .int v1]) (st := []) (mc' := 0) (ms' := 0) C dX11_rules_6 it_X11_165 (by decide) (Nat.le_of_ble_eq_true rfl) (c_X11_isIn l1 0 v1 (by omega) e4) (fun v_ h_ n_ q_ => ?_)
  obtain ⟨q1_, q2_, q3_⟩ := q_
  subst v_; subst h_; subst n_
  show WW W0 G 3 _ _ _ 9 [some (.ref l0), some (.int l1), some (.int l2)] [.int v3] h n _ _
  refine rr_if_eq (tgt := 19) C dX11_rules_9 (by decide) (fun c9_ => ?_) (fun c9_ => ?_)
  · replace hr := (if_pos c9_).symm.trans hr
    refine rr_bipush (v := (-2)) C dX11_rules_19 (by decide) ?_
    obtain rfl := Option.some.inj hr
    exact rr_iret (ty := .int) C dX11_rules_21 rfl rfl ⟨rfl, rfl, rfl⟩
  · replace hr := (if_neg c9_).symm.trans hr
    refine rr_iload_n (i := 2) C dX11_rules_12 rfl rfl ?_
    replace hr := Option.bind_eq_some_iff.mp hr
    obtain ⟨v5, e6, hr⟩ := hr
    refine rr_callS (as := [.int l2]) (st := []) (mc' := 0) (ms' := 0) C dX11_rules_13 it_X11_383 (by decide) (Nat.le_of_ble_eq_true rfl) (c_X11_isReview l2 (by omega) e6) (fun v_ h_ n_ q_ => ?_)
    obtain ⟨q1_, q2_, q3_⟩ := q_
    subst v_; subst h_; subst n_
    show WW W0 G 3 _ _ _ 16 [some (.ref l0), some (.int l1), some (.int l2)] [.int v5] h n _ _
    refine rr_if_ne (tgt := 22) C dX11_rules_16 (by decide) (fun c16_ => ?_) (fun c16_ => ?_)
    · replace hr := (if_neg c16_).symm.trans hr
      refine rr_aload_n (i := 0) C dX11_rules_22 rfl rfl ?_
      replace hr := Option.bind_eq_some_iff.mp hr
      obtain ⟨v7, e8, hr⟩ := hr
      refine rr_rdI C dX11_rules_23 fl_X11_380 e8 ?_
      refine rr_bipush (v := 8) C dX11_rules_26 (by decide) ?_
      refine rr_icmp_ne (tgt := 34) C dX11_rules_28 (by decide) (fun c28_ => ?_) (fun c28_ => ?_)
      · replace hr := (if_neg c28_).symm.trans hr
        refine rr_aload_n (i := 0) C dX11_rules_34 rfl rfl ?_
        refine rr_iload_n (i := 1) C dX11_rules_35 rfl rfl ?_
        refine rr_aload_n (i := 0) C dX11_rules_36 rfl rfl ?_
        refine rr_iload_n (i := 2) C dX11_rules_37 rfl rfl ?_
        refine rr_aload_n (i := 0) C dX11_rules_38 rfl rfl ?_
        replace hr := Option.bind_eq_some_iff.mp hr
        obtain ⟨v9, e10, hr⟩ := hr
        refine rr_rdI C dX11_rules_39 fl_X11_172 e10 ?_
        replace hr := Option.bind_eq_some_iff.mp hr
        obtain ⟨u11, e12, hr⟩ := hr
        replace hr := Option.bind_eq_some_iff.mp hr
        obtain ⟨v13, e14, hr⟩ := hr
        refine rr_callVq (as := [.int l2, .int v9]) (st := [.int l1, .ref l0]) (mc' := 0) (ms' := 0) C dX11_rules_42 iv_X11_386 (by decide) e12 rfl (Nat.le_of_ble_eq_true rfl) (c_X11_inForce l0 l2 v9 (by omega) e14) (fun v_ h_ n_ q_ => ?_)
        obtain ⟨q1_, q2_, q3_⟩ := q_
        subst v_; subst h_; subst n_
        show WW W0 G 3 _ _ _ 45 [some (.ref l0), some (.int l1), some (.int l2)] [.int v13, .int l1, .ref l0] h n _ _
        replace hr := Option.bind_eq_some_iff.mp hr
        obtain ⟨u15, e16, hr⟩ := hr
        replace hr := Option.bind_eq_some_iff.mp hr
        obtain ⟨v17, e18, hr⟩ := hr
        refine rr_callVq (as := [.int l1, .int v13]) (st := []) (mc' := 0) (ms' := 0) C dX11_rules_45 iv_X11_390 (by decide) e16 rfl (Nat.le_of_ble_eq_true rfl) (c_X11_reads l0 l1 v13 (by omega) e18) (fun v_ h_ n_ q_ => ?_)
        obtain ⟨q1_, q2_, q3_⟩ := q_
        subst v_; subst h_; subst n_
        show WW W0 G 3 _ _ _ 48 [some (.ref l0), some (.int l1), some (.int l2)] [.int v17.1] v17.2 n _ _
        refine rr_if_ne (tgt := 53) C dX11_rules_48 (by decide) (fun c48_ => ?_) (fun c48_ => ?_)
        · replace hr := (if_neg c48_).symm.trans hr
          refine rr_aload_n (i := 0) C dX11_rules_53 rfl rfl ?_
          refine rr_bipush (v := 13) C dX11_rules_54 (by decide) ?_
          refine rr_aload_n (i := 0) C dX11_rules_56 rfl rfl ?_
          replace hr := Option.bind_eq_some_iff.mp hr
          obtain ⟨v19, e20, hr⟩ := hr
          refine rr_rdI C dX11_rules_57 fl_X11_380 e20 ?_
          replace hr := Option.bind_eq_some_iff.mp hr
          obtain ⟨u21, e22, hr⟩ := hr
          replace hr := Option.bind_eq_some_iff.mp hr
          obtain ⟨v23, e24, hr⟩ := hr
          refine rr_callVq (as := [.int 13, .int v19]) (st := []) (mc' := 0) (ms' := 0) C dX11_rules_60 iv_X11_361 (by decide) e22 rfl (Nat.le_of_ble_eq_true rfl) (c_X11_copies l0 13 v19 (by omega) e24) (fun v_ h_ n_ q_ => ?_)
          obtain ⟨q1_, q2_, q3_⟩ := q_
          subst v_; subst h_; subst n_
          show WW W0 G 3 _ _ _ 63 [some (.ref l0), some (.int l1), some (.int l2)] [] v23 n _ _
          refine rr_aload_n (i := 0) C dX11_rules_63 rfl rfl ?_
          replace hr := Option.bind_eq_some_iff.mp hr
          obtain ⟨v25, e26, hr⟩ := hr
          refine rr_rdR C dX11_rules_64 fl_X11_72 e26 ?_
          refine rr_aload_n (i := 0) C dX11_rules_67 rfl rfl ?_
          replace hr := Option.bind_eq_some_iff.mp hr
          obtain ⟨v27, e28, hr⟩ := hr
          refine rr_rdI C dX11_rules_68 fl_X11_380 e28 ?_
          refine rr_iload_n (i := 2) C dX11_rules_71 rfl rfl ?_
          replace hr := Option.bind_eq_some_iff.mp hr
          obtain ⟨a29, e30, hr⟩ := hr
          subst e30
          replace hr := Option.bind_eq_some_iff.mp hr
          obtain ⟨h31, e32, hr⟩ := hr
          refine rr_stI C dX11_rules_72 e32 ?_
          refine rr_aload_n (i := 0) C dX11_rules_73 rfl rfl ?_
          replace hr := Option.bind_eq_some_iff.mp hr
          obtain ⟨v33, e34, hr⟩ := hr
          refine rr_rdR C dX11_rules_74 fl_X11_75 e34 ?_
          refine rr_aload_n (i := 0) C dX11_rules_77 rfl rfl ?_
          replace hr := Option.bind_eq_some_iff.mp hr
          obtain ⟨v35, e36, hr⟩ := hr
          refine rr_rdI C dX11_rules_78 fl_X11_380 e36 ?_
          refine rr_aload_n (i := 0) C dX11_rules_81 rfl rfl ?_
          replace hr := Option.bind_eq_some_iff.mp hr
          obtain ⟨v37, e38, hr⟩ := hr
          refine rr_rdI C dX11_rules_82 fl_X11_172 e38 ?_
          replace hr := Option.bind_eq_some_iff.mp hr
          obtain ⟨a39, e40, hr⟩ := hr
          subst e40
          replace hr := Option.bind_eq_some_iff.mp hr
          obtain ⟨h41, e42, hr⟩ := hr
          refine rr_stI C dX11_rules_85 e42 ?_
          refine rr_aload_n (i := 0) C dX11_rules_86 rfl rfl ?_
          refine rr_dup C dX11_rules_87 rfl ?_
          replace hr := Option.bind_eq_some_iff.mp hr
          obtain ⟨v43, e44, hr⟩ := hr
          refine rr_rdI C dX11_rules_88 fl_X11_380 e44 ?_
          refine rr_iconst (v := 1) C dX11_rules_91 (by decide) ?_
          refine rr_iadd C dX11_rules_92 ?_
          replace hr := Option.bind_eq_some_iff.mp hr
          obtain ⟨h45, e46, hr⟩ := hr
          refine rr_wrF C dX11_rules_93 fp_X11_380 rfl rfl e46 ?_
          refine rr_aload_n (i := 0) C dX11_rules_96 rfl rfl ?_
          replace hr := Option.bind_eq_some_iff.mp hr
          obtain ⟨v47, e48, hr⟩ := hr
          refine rr_rdI C dX11_rules_97 fl_X11_380 e48 ?_
          refine rr_iconst (v := 1) C dX11_rules_100 (by decide) ?_
          refine rr_isub C dX11_rules_101 ?_
          obtain rfl := Option.some.inj hr
          exact rr_iret (ty := .int) C dX11_rules_102 rfl rfl ⟨rfl, rfl, rfl⟩
        · replace hr := (if_pos c48_).symm.trans hr
          refine rr_iconst (v := (-1)) C dX11_rules_51 (by decide) ?_
          obtain rfl := Option.some.inj hr
          exact rr_iret (ty := .int) C dX11_rules_52 rfl rfl ⟨rfl, rfl, rfl⟩
      · replace hr := (if_pos c28_).symm.trans hr
        refine rr_bipush (v := (-3)) C dX11_rules_31 (by decide) ?_
        obtain rfl := Option.some.inj hr
        exact rr_iret (ty := .int) C dX11_rules_33 rfl rfl ⟨rfl, rfl, rfl⟩
    · replace hr := (if_pos c16_).symm.trans hr
      refine rr_bipush (v := (-2)) C dX11_rules_19 (by decide) ?_
      obtain rfl := Option.some.inj hr
      exact rr_iret (ty := .int) C dX11_rules_21 rfl rfl ⟨rfl, rfl, rfl⟩
def q_X11_beside (K : Nat) (h : mm_H) (n : Nat) (l0 : Nat) (l1 : Int32) : Option (Int32 × mm_H) :=
  (rdI h n l0 10 26).bind fun v1 =>
  (q_X11_isIn K h n l1 0 v1).bind fun v3 =>
  if v3 = 0 then
    some ((-2), h)
  else
  (rdI h n l0 10 0).bind fun v5 =>
  (rdI h n l0 10 0).bind fun v7 =>
  (ckq h n l0 10).bind fun u9 =>
  (q_X11_inForce K h n l0 ((v5 / 100) / 5) v7).bind fun v11 =>
  (ckq h n l0 10).bind fun u13 =>
  (q_X11_reads K h n l0 l1 v11).bind fun v15 =>
  (ckz v15.1).bind fun u17 =>
  (wrF v15.2 n l0 10 31 (.int v15.1)).bind fun h19 =>
  (rdI h19 n l0 10 31).bind fun v21 =>
  if v21 = 0 then
    some ((-1), h19)
  else
  (ckq h19 n l0 10).bind fun u23 =>
  (q_X11_copies K h19 n l0 13 8).bind fun v25 =>
  some (0, v25)
set_option maxRecDepth 100000 in
set_option maxHeartbeats 4000000 in
theorem c_X11_beside {K : Nat} {G : mm_G} {l : Launch} {h : mm_H} {n : Nat} (l0 : Nat) (l1 : Int32) {r_ : Int32 × mm_H} (hn : 48 ≤ n) (hr : q_X11_beside K h n l0 l1 = some r_) : Sp G l yX11_beside cX11_beside 2 (some .int) 54 0 0 [.ref l0, .int l1] h n (fun v h' n' => v = some (.int r_.1) ∧ h' = r_.2 ∧ n' = n) := by
  refine Sp_of (by decide +kernel) (Nat.le_of_ble_eq_true rfl) hn ?_
  intro W0 hwl C
  subst hwl
  unfold q_X11_beside at hr
  show WW W0 G 2 0 0 _ 0 [some (.ref l0), some (.int l1)] [] h n 0 0
  refine rr_iload_n (i := 1) C dX11_beside_0 rfl rfl ?_
  refine rr_iconst (v := 0) C dX11_beside_1 (by decide) ?_
  refine rr_aload_n (i := 0) C dX11_beside_2 rfl rfl ?_
  replace hr := Option.bind_eq_some_iff.mp hr
  obtain ⟨v1, e2, hr⟩ := hr
  refine rr_rdI C dX11_beside_3 fl_X11_214 e2 ?_
  replace hr := Option.bind_eq_some_iff.mp hr
  obtain ⟨v3, e4, hr⟩ := hr
  refine rr_callS (as := [.int l1, .int 0, .int v1]) (st := []) (mc' := 0) (ms' := 0) C dX11_beside_6 it_X11_165 (by decide) (Nat.le_of_ble_eq_true rfl) (c_X11_isIn l1 0 v1 (by omega) e4) (fun v_ h_ n_ q_ => ?_)
  obtain ⟨q1_, q2_, q3_⟩ := q_
  subst v_; subst h_; subst n_
  show WW W0 G 2 _ _ _ 9 [some (.ref l0), some (.int l1)] [.int v3] h n _ _
  refine rr_if_ne (tgt := 15) C dX11_beside_9 (by decide) (fun c9_ => ?_) (fun c9_ => ?_)
  · replace hr := (if_neg c9_).symm.trans hr
    refine rr_aload_n (i := 0) C dX11_beside_15 rfl rfl ?_
    refine rr_aload_n (i := 0) C dX11_beside_16 rfl rfl ?_
    refine rr_iload_n (i := 1) C dX11_beside_17 rfl rfl ?_
    refine rr_aload_n (i := 0) C dX11_beside_18 rfl rfl ?_
    refine rr_aload_n (i := 0) C dX11_beside_19 rfl rfl ?_
    replace hr := Option.bind_eq_some_iff.mp hr
    obtain ⟨v5, e6, hr⟩ := hr
    refine rr_rdI C dX11_beside_20 fl_X11_172 e6 ?_
    refine rr_bipush (v := 100) C dX11_beside_23 (by decide) ?_
    refine rr_idiv C dX11_beside_25 (by decide) ?_
    refine rr_iconst (v := 5) C dX11_beside_26 (by decide) ?_
    refine rr_idiv C dX11_beside_27 (by decide) ?_
    refine rr_aload_n (i := 0) C dX11_beside_28 rfl rfl ?_
    replace hr := Option.bind_eq_some_iff.mp hr
    obtain ⟨v7, e8, hr⟩ := hr
    refine rr_rdI C dX11_beside_29 fl_X11_172 e8 ?_
    replace hr := Option.bind_eq_some_iff.mp hr
    obtain ⟨u9, e10, hr⟩ := hr
    replace hr := Option.bind_eq_some_iff.mp hr
    obtain ⟨v11, e12, hr⟩ := hr
    refine rr_callVq (as := [.int ((v5 / 100) / 5), .int v7]) (st := [.int l1, .ref l0, .ref l0]) (mc' := 0) (ms' := 0) C dX11_beside_32 iv_X11_386 (by decide) e10 rfl (Nat.le_of_ble_eq_true rfl) (c_X11_inForce l0 ((v5 / 100) / 5) v7 (by omega) e12) (fun v_ h_ n_ q_ => ?_)
    obtain ⟨q1_, q2_, q3_⟩ := q_
    subst v_; subst h_; subst n_
    show WW W0 G 2 _ _ _ 35 [some (.ref l0), some (.int l1)] [.int v11, .int l1, .ref l0, .ref l0] h n _ _
    replace hr := Option.bind_eq_some_iff.mp hr
    obtain ⟨u13, e14, hr⟩ := hr
    replace hr := Option.bind_eq_some_iff.mp hr
    obtain ⟨v15, e16, hr⟩ := hr
    refine rr_callVq (as := [.int l1, .int v11]) (st := [.ref l0]) (mc' := 0) (ms' := 0) C dX11_beside_35 iv_X11_390 (by decide) e14 rfl (Nat.le_of_ble_eq_true rfl) (c_X11_reads l0 l1 v11 (by omega) e16) (fun v_ h_ n_ q_ => ?_)
    obtain ⟨q1_, q2_, q3_⟩ := q_
    subst v_; subst h_; subst n_
    show WW W0 G 2 _ _ _ 38 [some (.ref l0), some (.int l1)] [.int v15.1, .ref l0] v15.2 n _ _
    replace hr := Option.bind_eq_some_iff.mp hr
    obtain ⟨u17, e18, hr⟩ := hr
    replace hr := Option.bind_eq_some_iff.mp hr
    obtain ⟨h19, e20, hr⟩ := hr
    refine rr_wrF C dX11_beside_38 fp_X11_393 (ckz_s e18) (ckz_f e18) e20 ?_
    refine rr_aload_n (i := 0) C dX11_beside_41 rfl rfl ?_
    replace hr := Option.bind_eq_some_iff.mp hr
    obtain ⟨v21, e22, hr⟩ := hr
    refine rr_rdI C dX11_beside_42 fl_X11_393 e22 ?_
    refine rr_if_ne (tgt := 50) C dX11_beside_45 (by decide) (fun c45_ => ?_) (fun c45_ => ?_)
    · replace hr := (if_neg c45_).symm.trans hr
      refine rr_aload_n (i := 0) C dX11_beside_50 rfl rfl ?_
      refine rr_bipush (v := 13) C dX11_beside_51 (by decide) ?_
      refine rr_bipush (v := 8) C dX11_beside_53 (by decide) ?_
      replace hr := Option.bind_eq_some_iff.mp hr
      obtain ⟨u23, e24, hr⟩ := hr
      replace hr := Option.bind_eq_some_iff.mp hr
      obtain ⟨v25, e26, hr⟩ := hr
      refine rr_callVq (as := [.int 13, .int 8]) (st := []) (mc' := 0) (ms' := 0) C dX11_beside_55 iv_X11_361 (by decide) e24 rfl (Nat.le_of_ble_eq_true rfl) (c_X11_copies l0 13 8 (by omega) e26) (fun v_ h_ n_ q_ => ?_)
      obtain ⟨q1_, q2_, q3_⟩ := q_
      subst v_; subst h_; subst n_
      show WW W0 G 2 _ _ _ 58 [some (.ref l0), some (.int l1)] [] v25 n _ _
      refine rr_iconst (v := 0) C dX11_beside_58 (by decide) ?_
      obtain rfl := Option.some.inj hr
      exact rr_iret (ty := .int) C dX11_beside_59 rfl rfl ⟨rfl, rfl, rfl⟩
    · replace hr := (if_pos c45_).symm.trans hr
      refine rr_iconst (v := (-1)) C dX11_beside_48 (by decide) ?_
      obtain rfl := Option.some.inj hr
      exact rr_iret (ty := .int) C dX11_beside_49 rfl rfl ⟨rfl, rfl, rfl⟩
  · replace hr := (if_pos c9_).symm.trans hr
    refine rr_bipush (v := (-2)) C dX11_beside_12 (by decide) ?_
    obtain rfl := Option.some.inj hr
    exact rr_iret (ty := .int) C dX11_beside_14 rfl rfl ⟨rfl, rfl, rfl⟩
def q_X11_fault (K : Nat) (h : mm_H) (n : Nat) (l0 : Nat) : Option (Int32) :=
  (rdI h n l0 10 30).bind fun v1 =>
  some v1
set_option maxRecDepth 100000 in
set_option maxHeartbeats 4000000 in
theorem c_X11_fault {K : Nat} {G : mm_G} {l : Launch} {h : mm_H} {n : Nat} (l0 : Nat) {r_ : Int32} (hn : 48 ≤ n) (hr : q_X11_fault K h n l0 = some r_) : Sp G l yX11_fault cX11_fault 1 (some .int) 0 0 0 [.ref l0] h n (fun v h' n' => v = some (.int r_) ∧ h' = h ∧ n' = n) := by
  refine Sp_of (by decide +kernel) (Nat.le_of_ble_eq_true rfl) hn ?_
  intro W0 hwl C
  subst hwl
  unfold q_X11_fault at hr
  show WW W0 G 1 0 0 _ 0 [some (.ref l0)] [] h n 0 0
  refine rr_aload_n (i := 0) C dX11_fault_0 rfl rfl ?_
  replace hr := Option.bind_eq_some_iff.mp hr
  obtain ⟨v1, e2, hr⟩ := hr
  refine rr_rdI C dX11_fault_1 fl_X11_65 e2 ?_
  obtain rfl := Option.some.inj hr
  exact rr_iret (ty := .int) C dX11_fault_4 rfl rfl ⟨rfl, rfl, rfl⟩
def q_X11_setOf (K : Nat) (h : mm_H) (n : Nat) (l0 : Nat) (l1 : Int32) : Option (Int32) :=
  (rdI h n l0 10 56).bind fun v1 =>
  if l1 = v1 then
    (rdI h n l0 10 57).bind fun v3 =>
    some v3
  else
  (ckq h n l0 10).bind fun u5 =>
  (q_X11_inForce K h n l0 l1 (500 * l1)).bind fun v7 =>
  some v7
set_option maxRecDepth 100000 in
set_option maxHeartbeats 4000000 in
theorem c_X11_setOf {K : Nat} {G : mm_G} {l : Launch} {h : mm_H} {n : Nat} (l0 : Nat) (l1 : Int32) {r_ : Int32} (hn : 48 ≤ n) (hr : q_X11_setOf K h n l0 l1 = some r_) : Sp G l yX11_setOf cX11_setOf 2 (some .int) 1 0 0 [.ref l0, .int l1] h n (fun v h' n' => v = some (.int r_) ∧ h' = h ∧ n' = n) := by
  refine Sp_of (by decide +kernel) (Nat.le_of_ble_eq_true rfl) hn ?_
  intro W0 hwl C
  subst hwl
  unfold q_X11_setOf at hr
  show WW W0 G 2 0 0 _ 0 [some (.ref l0), some (.int l1)] [] h n 0 0
  refine rr_iload_n (i := 1) C dX11_setOf_0 rfl rfl ?_
  refine rr_aload_n (i := 0) C dX11_setOf_1 rfl rfl ?_
  replace hr := Option.bind_eq_some_iff.mp hr
  obtain ⟨v1, e2, hr⟩ := hr
  refine rr_rdI C dX11_setOf_2 fl_X11_138 e2 ?_
  refine rr_icmp_ne (tgt := 15) C dX11_setOf_5 (by decide) (fun c5_ => ?_) (fun c5_ => ?_)
  · replace hr := (if_neg c5_).symm.trans hr
    refine rr_aload_n (i := 0) C dX11_setOf_15 rfl rfl ?_
    refine rr_iload_n (i := 1) C dX11_setOf_16 rfl rfl ?_
    refine rr_sipush (v := 500) C dX11_setOf_17 (by decide) ?_
    refine rr_iload_n (i := 1) C dX11_setOf_20 rfl rfl ?_
    refine rr_imul C dX11_setOf_21 ?_
    replace hr := Option.bind_eq_some_iff.mp hr
    obtain ⟨u5, e6, hr⟩ := hr
    replace hr := Option.bind_eq_some_iff.mp hr
    obtain ⟨v7, e8, hr⟩ := hr
    refine rr_callVq (as := [.int l1, .int (500 * l1)]) (st := []) (mc' := 0) (ms' := 0) C dX11_setOf_22 iv_X11_386 (by decide) e6 rfl (Nat.le_of_ble_eq_true rfl) (c_X11_inForce l0 l1 (500 * l1) (by omega) e8) (fun v_ h_ n_ q_ => ?_)
    obtain ⟨q1_, q2_, q3_⟩ := q_
    subst v_; subst h_; subst n_
    show WW W0 G 2 _ _ _ 25 [some (.ref l0), some (.int l1)] [.int v7] h n _ _
    obtain rfl := Option.some.inj hr
    exact rr_iret (ty := .int) C dX11_setOf_25 rfl rfl ⟨rfl, rfl, rfl⟩
  · replace hr := (if_pos c5_).symm.trans hr
    refine rr_aload_n (i := 0) C dX11_setOf_8 rfl rfl ?_
    replace hr := Option.bind_eq_some_iff.mp hr
    obtain ⟨v3, e4, hr⟩ := hr
    refine rr_rdI C dX11_setOf_9 fl_X11_397 e4 ?_
    refine rr_goto (tgt := 25) C dX11_setOf_12 (by decide) ?_
    obtain rfl := Option.some.inj hr
    exact rr_iret (ty := .int) C dX11_setOf_25 rfl rfl ⟨rfl, rfl, rfl⟩
def q_X11_isAlike (K : Nat) (h : mm_H) (n : Nat) (l0 : Nat) (l1 : Int32) (l2 : Int32) : Option (Int32) :=
  (rdR h n l0 10 36).bind fun v1 =>
  v1.bind fun a3 =>
  (ldI h n a3 l1).bind fun v5 =>
  (rdR h n l0 10 36).bind fun v7 =>
  v7.bind fun a9 =>
  (ldI h n a9 l2).bind fun v11 =>
  if v5 = v11 then
    (rdR h n l0 10 37).bind fun v13 =>
    v13.bind fun a15 =>
    (ldI h n a15 l1).bind fun v17 =>
    (rdR h n l0 10 37).bind fun v19 =>
    v19.bind fun a21 =>
    (ldI h n a21 l2).bind fun v23 =>
    if v17 = v23 then
      some 1
    else
    some 0
  else
  some 0
set_option maxRecDepth 100000 in
set_option maxHeartbeats 4000000 in
theorem c_X11_isAlike {K : Nat} {G : mm_G} {l : Launch} {h : mm_H} {n : Nat} (l0 : Nat) (l1 : Int32) (l2 : Int32) {r_ : Int32} (hn : 48 ≤ n) (hr : q_X11_isAlike K h n l0 l1 l2 = some r_) : Sp G l yX11_isAlike cX11_isAlike 3 (some .boolean) 0 0 0 [.ref l0, .int l1, .int l2] h n (fun v h' n' => v = some (.int r_) ∧ h' = h ∧ n' = n) := by
  refine Sp_of (by decide +kernel) (Nat.le_of_ble_eq_true rfl) hn ?_
  intro W0 hwl C
  subst hwl
  unfold q_X11_isAlike at hr
  show WW W0 G 3 0 0 _ 0 [some (.ref l0), some (.int l1), some (.int l2)] [] h n 0 0
  refine rr_aload_n (i := 0) C dX11_isAlike_0 rfl rfl ?_
  replace hr := Option.bind_eq_some_iff.mp hr
  obtain ⟨v1, e2, hr⟩ := hr
  refine rr_rdR C dX11_isAlike_1 fl_X11_81 e2 ?_
  refine rr_iload_n (i := 1) C dX11_isAlike_4 rfl rfl ?_
  replace hr := Option.bind_eq_some_iff.mp hr
  obtain ⟨a3, e4, hr⟩ := hr
  subst e4
  replace hr := Option.bind_eq_some_iff.mp hr
  obtain ⟨v5, e6, hr⟩ := hr
  refine rr_ldI C dX11_isAlike_5 e6 ?_
  refine rr_aload_n (i := 0) C dX11_isAlike_6 rfl rfl ?_
  replace hr := Option.bind_eq_some_iff.mp hr
  obtain ⟨v7, e8, hr⟩ := hr
  refine rr_rdR C dX11_isAlike_7 fl_X11_81 e8 ?_
  refine rr_iload_n (i := 2) C dX11_isAlike_10 rfl rfl ?_
  replace hr := Option.bind_eq_some_iff.mp hr
  obtain ⟨a9, e10, hr⟩ := hr
  subst e10
  replace hr := Option.bind_eq_some_iff.mp hr
  obtain ⟨v11, e12, hr⟩ := hr
  refine rr_ldI C dX11_isAlike_11 e12 ?_
  refine rr_icmp_ne (tgt := 34) C dX11_isAlike_12 (by decide) (fun c12_ => ?_) (fun c12_ => ?_)
  · replace hr := (if_neg c12_).symm.trans hr
    refine rr_iconst (v := 0) C dX11_isAlike_34 (by decide) ?_
    obtain rfl := Option.some.inj hr
    exact rr_iret (ty := .boolean) C dX11_isAlike_35 rfl rfl ⟨rfl, rfl, rfl⟩
  · replace hr := (if_pos c12_).symm.trans hr
    refine rr_aload_n (i := 0) C dX11_isAlike_15 rfl rfl ?_
    replace hr := Option.bind_eq_some_iff.mp hr
    obtain ⟨v13, e14, hr⟩ := hr
    refine rr_rdR C dX11_isAlike_16 fl_X11_84 e14 ?_
    refine rr_iload_n (i := 1) C dX11_isAlike_19 rfl rfl ?_
    replace hr := Option.bind_eq_some_iff.mp hr
    obtain ⟨a15, e16, hr⟩ := hr
    subst e16
    replace hr := Option.bind_eq_some_iff.mp hr
    obtain ⟨v17, e18, hr⟩ := hr
    refine rr_ldI C dX11_isAlike_20 e18 ?_
    refine rr_aload_n (i := 0) C dX11_isAlike_21 rfl rfl ?_
    replace hr := Option.bind_eq_some_iff.mp hr
    obtain ⟨v19, e20, hr⟩ := hr
    refine rr_rdR C dX11_isAlike_22 fl_X11_84 e20 ?_
    refine rr_iload_n (i := 2) C dX11_isAlike_25 rfl rfl ?_
    replace hr := Option.bind_eq_some_iff.mp hr
    obtain ⟨a21, e22, hr⟩ := hr
    subst e22
    replace hr := Option.bind_eq_some_iff.mp hr
    obtain ⟨v23, e24, hr⟩ := hr
    refine rr_ldI C dX11_isAlike_26 e24 ?_
    refine rr_icmp_ne (tgt := 34) C dX11_isAlike_27 (by decide) (fun c27_ => ?_) (fun c27_ => ?_)
    · replace hr := (if_neg c27_).symm.trans hr
      refine rr_iconst (v := 0) C dX11_isAlike_34 (by decide) ?_
      obtain rfl := Option.some.inj hr
      exact rr_iret (ty := .boolean) C dX11_isAlike_35 rfl rfl ⟨rfl, rfl, rfl⟩
    · replace hr := (if_pos c27_).symm.trans hr
      refine rr_iconst (v := 1) C dX11_isAlike_30 (by decide) ?_
      refine rr_goto (tgt := 35) C dX11_isAlike_31 (by decide) ?_
      obtain rfl := Option.some.inj hr
      exact rr_iret (ty := .boolean) C dX11_isAlike_35 rfl rfl ⟨rfl, rfl, rfl⟩
def lp_X11_review_69 (K : Nat) (h : mm_H) (n : Nat) (l0 : Nat) (l2 : Int32) (l3 : Int32) (l4 : Int32) : Nat → Int32 → Option (Nat × Int32)
  | 0, _ => none
  | k_ + 1, l5 =>
    (rdR h n l0 10 32).bind fun v22 =>
    v22.bind fun a24 =>
    (ldI h n a24 l3).bind fun v26 =>
    if v26 ≤ l5 then
      some (1, l5)
    else
    (rdR h n l0 10 44).bind fun v30 =>
    v30.bind fun a32 =>
    (ldI h n a32 ((300 * l3) + l4)).bind fun v34 =>
    if v34 = (-1) then
      (rdR h n l0 10 44).bind fun v36 =>
      v36.bind fun a38 =>
      (ldI h n a38 ((300 * l3) + l5)).bind fun v40 =>
      if v40 = (-1) then
        (ckq h n l0 10).bind fun u42 =>
        (q_X11_isAlike K h n l0 ((300 * l3) + l4) ((300 * l3) + l5)).bind fun v44 =>
        if v44 = 0 then
          lp_X11_review_69 K h n l0 l2 l3 l4 k_ (l5 + 1)
        else
        some (0, l5)
      else
      lp_X11_review_69 K h n l0 l2 l3 l4 k_ (l5 + 1)
    else
    lp_X11_review_69 K h n l0 l2 l3 l4 k_ (l5 + 1)
def lp_X11_review_52 (K : Nat) (h : mm_H) (n : Nat) (l0 : Nat) (l2 : Int32) (l3 : Int32) : Nat → Int32 → Option (Nat × Int32 × Int32)
  | 0, _ => none
  | k_ + 1, l4 =>
    (rdR h n l0 10 32).bind fun v15 =>
    v15.bind fun a17 =>
    (ldI h n a17 l3).bind fun v19 =>
    if v19 ≤ l4 then
      some (1, l4, 0)
    else
    (lp_X11_review_69 K h n l0 l2 l3 l4 K (l4 + 1)).bind fun v46 =>
    if v46.1 = 0 then
      some (0, l4, v46.2)
    else
    if v46.1 = 1 then
      lp_X11_review_52 K h n l0 l2 l3 k_ (l4 + 1)
    else
      none
def q_X11_review (K : Nat) (h : mm_H) (n : Nat) (l0 : Nat) (l1 : Int32) (l2 : Int32) : Option (Int32) :=
  (q_X11_isReview K h n l1).bind fun v1 =>
  if v1 = 0 then
    some (-1)
  else
  (q_X11_isIn K h n l2 0 3).bind fun v3 =>
  if v3 = 0 then
    some (-1)
  else
  (ckq h n l0 10).bind fun u5 =>
  (q_X11_setOf K h n l0 l1).bind fun v7 =>
  if v7 = (-1) then
    some (-1)
  else
  if l2 = 0 then
    some v7
  else
  if l2 = 1 then
    (rdR h n l0 10 32).bind fun v9 =>
    v9.bind fun a11 =>
    (ldI h n a11 v7).bind fun v13 =>
    some v13
  else
  (lp_X11_review_52 K h n l0 l2 v7 K 0).bind fun v48 =>
  if v48.1 = 0 then
    if l2 = 2 then
      some v48.2.1
    else
    some v48.2.2
  else
  if v48.1 = 1 then
    some (-1)
  else
    none
set_option maxRecDepth 100000 in
set_option maxHeartbeats 4000000 in
theorem w_X11_review_69 {K : Nat} {W0 : mm_X} {G : mm_G} {mc ms kc ks : Nat} {Q_ : State → Prop} {h : mm_H} {n : Nat} (C : mm_C W0 G cX11_review yX11_review.cls 8 mc ms (some .int) 2 yX11_review.name) (hn : 48 ≤ n) (l0 : Nat) (l2 : Int32) (l3 : Int32) (l4 : Int32) : ∀ (k_ : Nat) (l5 : Int32) {r_ : Nat × Int32} (hr : lp_X11_review_69 K h n l0 l2 l3 l4 k_ l5 = some r_) (hx0 : r_.1 = 0 → WW W0 G 8 mc ms Q_ 133 [none, none, some (.int l2), none, some (.int l4), some (.int r_.2), none, none] [] h n kc ks) (hx1 : r_.1 = 1 → WW W0 G 8 mc ms Q_ 152 [some (.ref l0), none, some (.int l2), some (.int l3), some (.int l4), none, none, none] [] h n kc ks), WW W0 G 8 mc ms Q_ 69 [some (.ref l0), none, some (.int l2), some (.int l3), some (.int l4), some (.int l5), none, none] [] h n kc ks := by
  intro k_
  induction k_ with
  | zero =>
    intro l5 r_ hr
    cases hr
  | succ k_ ih_ =>
    intro l5 r_ hr hx0 hx1
    unfold lp_X11_review_69 at hr
    refine rr_iload C dX11_review_69 rfl ?_
    refine rr_aload_n (i := 0) C dX11_review_71 rfl rfl ?_
    replace hr := Option.bind_eq_some_iff.mp hr
    obtain ⟨v22, e23, hr⟩ := hr
    refine rr_rdR C dX11_review_72 fl_X11_69 e23 ?_
    refine rr_iload_n (i := 3) C dX11_review_75 rfl rfl ?_
    replace hr := Option.bind_eq_some_iff.mp hr
    obtain ⟨a24, e25, hr⟩ := hr
    subst e25
    replace hr := Option.bind_eq_some_iff.mp hr
    obtain ⟨v26, e27, hr⟩ := hr
    refine rr_ldI C dX11_review_76 e27 ?_
    refine rr_icmp_ge (tgt := 152) C dX11_review_77 (by decide) (fun c77_ => ?_) (fun c77_ => ?_)
    · replace hr := (if_pos c77_).symm.trans hr
      obtain rfl := Option.some.inj hr
      exact rr_keep [true, false, true, true, true, false, false, false] (hx1 rfl)
    · replace hr := (if_neg c77_).symm.trans hr
      refine rr_sipush (v := 300) C dX11_review_80 (by decide) ?_
      refine rr_iload_n (i := 3) C dX11_review_83 rfl rfl ?_
      refine rr_imul C dX11_review_84 ?_
      refine rr_iload C dX11_review_85 rfl ?_
      refine rr_iadd C dX11_review_87 ?_
      refine rr_istore C dX11_review_88 (by decide) ?_
      show WW W0 G 8 _ _ _ 90 [some (.ref l0), none, some (.int l2), some (.int l3), some (.int l4), some (.int l5), some (.int ((300 * l3) + l4)), none] [] h n _ _
      refine rr_sipush (v := 300) C dX11_review_90 (by decide) ?_
      refine rr_iload_n (i := 3) C dX11_review_93 rfl rfl ?_
      refine rr_imul C dX11_review_94 ?_
      refine rr_iload C dX11_review_95 rfl ?_
      refine rr_iadd C dX11_review_97 ?_
      refine rr_istore C dX11_review_98 (by decide) ?_
      show WW W0 G 8 _ _ _ 100 [some (.ref l0), none, some (.int l2), some (.int l3), some (.int l4), some (.int l5), some (.int ((300 * l3) + l4)), some (.int ((300 * l3) + l5))] [] h n _ _
      refine rr_aload_n (i := 0) C dX11_review_100 rfl rfl ?_
      replace hr := Option.bind_eq_some_iff.mp hr
      obtain ⟨v30, e31, hr⟩ := hr
      refine rr_rdR C dX11_review_101 fl_X11_105 e31 ?_
      refine rr_iload C dX11_review_104 rfl ?_
      replace hr := Option.bind_eq_some_iff.mp hr
      obtain ⟨a32, e33, hr⟩ := hr
      subst e33
      replace hr := Option.bind_eq_some_iff.mp hr
      obtain ⟨v34, e35, hr⟩ := hr
      refine rr_ldI C dX11_review_106 e35 ?_
      refine rr_iconst (v := (-1)) C dX11_review_107 (by decide) ?_
      refine rr_icmp_ne (tgt := 146) C dX11_review_108 (by decide) (fun c108_ => ?_) (fun c108_ => ?_)
      · replace hr := (if_neg c108_).symm.trans hr
        refine rr_iinc (v := l5 + 1) C dX11_review_146 rfl rfl ?_
        show WW W0 G 8 _ _ _ 149 [some (.ref l0), none, some (.int l2), some (.int l3), some (.int l4), some (.int (l5 + 1)), some (.int ((300 * l3) + l4)), some (.int ((300 * l3) + l5))] [] h n _ _
        refine rr_goto (tgt := 69) C dX11_review_149 (by decide) ?_
        exact rr_keep [true, false, true, true, true, true, false, false] (ih_ _ hr hx0 hx1)
      · replace hr := (if_pos c108_).symm.trans hr
        refine rr_aload_n (i := 0) C dX11_review_111 rfl rfl ?_
        replace hr := Option.bind_eq_some_iff.mp hr
        obtain ⟨v36, e37, hr⟩ := hr
        refine rr_rdR C dX11_review_112 fl_X11_105 e37 ?_
        refine rr_iload C dX11_review_115 rfl ?_
        replace hr := Option.bind_eq_some_iff.mp hr
        obtain ⟨a38, e39, hr⟩ := hr
        subst e39
        replace hr := Option.bind_eq_some_iff.mp hr
        obtain ⟨v40, e41, hr⟩ := hr
        refine rr_ldI C dX11_review_117 e41 ?_
        refine rr_iconst (v := (-1)) C dX11_review_118 (by decide) ?_
        refine rr_icmp_ne (tgt := 146) C dX11_review_119 (by decide) (fun c119_ => ?_) (fun c119_ => ?_)
        · replace hr := (if_neg c119_).symm.trans hr
          refine rr_iinc (v := l5 + 1) C dX11_review_146 rfl rfl ?_
          show WW W0 G 8 _ _ _ 149 [some (.ref l0), none, some (.int l2), some (.int l3), some (.int l4), some (.int (l5 + 1)), some (.int ((300 * l3) + l4)), some (.int ((300 * l3) + l5))] [] h n _ _
          refine rr_goto (tgt := 69) C dX11_review_149 (by decide) ?_
          exact rr_keep [true, false, true, true, true, true, false, false] (ih_ _ hr hx0 hx1)
        · replace hr := (if_pos c119_).symm.trans hr
          refine rr_aload_n (i := 0) C dX11_review_122 rfl rfl ?_
          refine rr_iload C dX11_review_123 rfl ?_
          refine rr_iload C dX11_review_125 rfl ?_
          replace hr := Option.bind_eq_some_iff.mp hr
          obtain ⟨u42, e43, hr⟩ := hr
          replace hr := Option.bind_eq_some_iff.mp hr
          obtain ⟨v44, e45, hr⟩ := hr
          refine rr_callVq (as := [.int ((300 * l3) + l4), .int ((300 * l3) + l5)]) (st := []) (mc' := 0) (ms' := 0) C dX11_review_127 iv_X11_403 (by decide) e43 rfl (Nat.le_of_ble_eq_true rfl) (c_X11_isAlike l0 ((300 * l3) + l4) ((300 * l3) + l5) (by omega) e45) (fun v_ h_ n_ q_ => ?_)
          obtain ⟨q1_, q2_, q3_⟩ := q_
          subst v_; subst h_; subst n_
          show WW W0 G 8 _ _ _ 130 [some (.ref l0), none, some (.int l2), some (.int l3), some (.int l4), some (.int l5), some (.int ((300 * l3) + l4)), some (.int ((300 * l3) + l5))] [.int v44] h n _ _
          refine rr_if_eq (tgt := 146) C dX11_review_130 (by decide) (fun c130_ => ?_) (fun c130_ => ?_)
          · replace hr := (if_pos c130_).symm.trans hr
            refine rr_iinc (v := l5 + 1) C dX11_review_146 rfl rfl ?_
            show WW W0 G 8 _ _ _ 149 [some (.ref l0), none, some (.int l2), some (.int l3), some (.int l4), some (.int (l5 + 1)), some (.int ((300 * l3) + l4)), some (.int ((300 * l3) + l5))] [] h n _ _
            refine rr_goto (tgt := 69) C dX11_review_149 (by decide) ?_
            exact rr_keep [true, false, true, true, true, true, false, false] (ih_ _ hr hx0 hx1)
          · replace hr := (if_neg c130_).symm.trans hr
            obtain rfl := Option.some.inj hr
            exact rr_keep [false, false, true, false, true, true, false, false] (hx0 rfl)
set_option maxRecDepth 100000 in
set_option maxHeartbeats 4000000 in
theorem w_X11_review_52 {K : Nat} {W0 : mm_X} {G : mm_G} {mc ms kc ks : Nat} {Q_ : State → Prop} {h : mm_H} {n : Nat} (C : mm_C W0 G cX11_review yX11_review.cls 8 mc ms (some .int) 2 yX11_review.name) (hn : 48 ≤ n) (l0 : Nat) (l2 : Int32) (l3 : Int32) : ∀ (k_ : Nat) (l4 : Int32) {r_ : Nat × Int32 × Int32} (hr : lp_X11_review_52 K h n l0 l2 l3 k_ l4 = some r_) (hx0 : r_.1 = 0 → WW W0 G 8 mc ms Q_ 133 [none, none, some (.int l2), none, some (.int r_.2.1), some (.int r_.2.2), none, none] [] h n kc ks) (hx1 : r_.1 = 1 → WW W0 G 8 mc ms Q_ 158 [none, none, none, none, none, none, none, none] [] h n kc ks), WW W0 G 8 mc ms Q_ 52 [some (.ref l0), none, some (.int l2), some (.int l3), some (.int l4), none, none, none] [] h n kc ks := by
  intro k_
  induction k_ with
  | zero =>
    intro l4 r_ hr
    cases hr
  | succ k_ ih_ =>
    intro l4 r_ hr hx0 hx1
    unfold lp_X11_review_52 at hr
    refine rr_iload C dX11_review_52 rfl ?_
    refine rr_aload_n (i := 0) C dX11_review_54 rfl rfl ?_
    replace hr := Option.bind_eq_some_iff.mp hr
    obtain ⟨v15, e16, hr⟩ := hr
    refine rr_rdR C dX11_review_55 fl_X11_69 e16 ?_
    refine rr_iload_n (i := 3) C dX11_review_58 rfl rfl ?_
    replace hr := Option.bind_eq_some_iff.mp hr
    obtain ⟨a17, e18, hr⟩ := hr
    subst e18
    replace hr := Option.bind_eq_some_iff.mp hr
    obtain ⟨v19, e20, hr⟩ := hr
    refine rr_ldI C dX11_review_59 e20 ?_
    refine rr_icmp_ge (tgt := 158) C dX11_review_60 (by decide) (fun c60_ => ?_) (fun c60_ => ?_)
    · replace hr := (if_pos c60_).symm.trans hr
      obtain rfl := Option.some.inj hr
      exact rr_keep [false, false, false, false, false, false, false, false] (hx1 rfl)
    · replace hr := (if_neg c60_).symm.trans hr
      refine rr_iload C dX11_review_63 rfl ?_
      refine rr_iconst (v := 1) C dX11_review_65 (by decide) ?_
      refine rr_iadd C dX11_review_66 ?_
      refine rr_istore C dX11_review_67 (by decide) ?_
      show WW W0 G 8 _ _ _ 69 [some (.ref l0), none, some (.int l2), some (.int l3), some (.int l4), some (.int (l4 + 1)), none, none] [] h n _ _
      replace hr := Option.bind_eq_some_iff.mp hr
      obtain ⟨v46, e47, hr⟩ := hr
      refine rr_keep [true, false, true, true, true, true, false, false] (w_X11_review_69 C (by omega) l0 l2 l3 l4 K (l4 + 1) e47 ?_ ?_)
      · intro cx_
        replace hr := (if_pos cx_).symm.trans hr
        show WW W0 G 8 _ _ _ 133 [none, none, some (.int l2), none, some (.int l4), some (.int v46.2), none, none] [] h n _ _
        obtain rfl := Option.some.inj hr
        exact rr_keep [false, false, true, false, true, true, false, false] (hx0 rfl)
      · intro cx_
        replace hr := (if_neg (fun z_ => absurd (z_.symm.trans cx_) (by decide))).symm.trans hr
        replace hr := (if_pos cx_).symm.trans hr
        show WW W0 G 8 _ _ _ 152 [some (.ref l0), none, some (.int l2), some (.int l3), some (.int l4), none, none, none] [] h n _ _
        refine rr_iinc (v := l4 + 1) C dX11_review_152 rfl rfl ?_
        show WW W0 G 8 _ _ _ 155 [some (.ref l0), none, some (.int l2), some (.int l3), some (.int (l4 + 1)), none, none, none] [] h n _ _
        refine rr_goto (tgt := 52) C dX11_review_155 (by decide) ?_
        exact rr_keep [true, false, true, true, true, false, false, false] (ih_ _ hr hx0 hx1)
set_option maxRecDepth 100000 in
set_option maxHeartbeats 4000000 in
theorem c_X11_review {K : Nat} {G : mm_G} {l : Launch} {h : mm_H} {n : Nat} (l0 : Nat) (l1 : Int32) (l2 : Int32) {r_ : Int32} (hn : 48 ≤ n) (hr : q_X11_review K h n l0 l1 l2 = some r_) : Sp G l yX11_review cX11_review 8 (some .int) 2 0 0 [.ref l0, .int l1, .int l2] h n (fun v h' n' => v = some (.int r_) ∧ h' = h ∧ n' = n) := by
  refine Sp_of (by decide +kernel) (Nat.le_of_ble_eq_true rfl) hn ?_
  intro W0 hwl C
  subst hwl
  unfold q_X11_review at hr
  show WW W0 G 8 0 0 _ 0 [some (.ref l0), some (.int l1), some (.int l2), none, none, none, none, none] [] h n 0 0
  refine rr_iload_n (i := 1) C dX11_review_0 rfl rfl ?_
  replace hr := Option.bind_eq_some_iff.mp hr
  obtain ⟨v1, e2, hr⟩ := hr
  refine rr_callS (as := [.int l1]) (st := []) (mc' := 0) (ms' := 0) C dX11_review_1 it_X11_383 (by decide) (Nat.le_of_ble_eq_true rfl) (c_X11_isReview l1 (by omega) e2) (fun v_ h_ n_ q_ => ?_)
  obtain ⟨q1_, q2_, q3_⟩ := q_
  subst v_; subst h_; subst n_
  show WW W0 G 8 _ _ _ 4 [some (.ref l0), some (.int l1), some (.int l2), none, none, none, none, none] [.int v1] h n _ _
  refine rr_if_eq (tgt := 16) C dX11_review_4 (by decide) (fun c4_ => ?_) (fun c4_ => ?_)
  · replace hr := (if_pos c4_).symm.trans hr
    refine rr_iconst (v := (-1)) C dX11_review_16 (by decide) ?_
    obtain rfl := Option.some.inj hr
    exact rr_iret (ty := .int) C dX11_review_17 rfl rfl ⟨rfl, rfl, rfl⟩
  · replace hr := (if_neg c4_).symm.trans hr
    refine rr_iload_n (i := 2) C dX11_review_7 rfl rfl ?_
    refine rr_iconst (v := 0) C dX11_review_8 (by decide) ?_
    refine rr_iconst (v := 3) C dX11_review_9 (by decide) ?_
    replace hr := Option.bind_eq_some_iff.mp hr
    obtain ⟨v3, e4, hr⟩ := hr
    refine rr_callS (as := [.int l2, .int 0, .int 3]) (st := []) (mc' := 0) (ms' := 0) C dX11_review_10 it_X11_165 (by decide) (Nat.le_of_ble_eq_true rfl) (c_X11_isIn l2 0 3 (by omega) e4) (fun v_ h_ n_ q_ => ?_)
    obtain ⟨q1_, q2_, q3_⟩ := q_
    subst v_; subst h_; subst n_
    show WW W0 G 8 _ _ _ 13 [some (.ref l0), some (.int l1), some (.int l2), none, none, none, none, none] [.int v3] h n _ _
    refine rr_if_ne (tgt := 18) C dX11_review_13 (by decide) (fun c13_ => ?_) (fun c13_ => ?_)
    · replace hr := (if_neg c13_).symm.trans hr
      refine rr_aload_n (i := 0) C dX11_review_18 rfl rfl ?_
      refine rr_iload_n (i := 1) C dX11_review_19 rfl rfl ?_
      replace hr := Option.bind_eq_some_iff.mp hr
      obtain ⟨u5, e6, hr⟩ := hr
      replace hr := Option.bind_eq_some_iff.mp hr
      obtain ⟨v7, e8, hr⟩ := hr
      refine rr_callVq (as := [.int l1]) (st := []) (mc' := 0) (ms' := 0) C dX11_review_20 iv_X11_400 (by decide) e6 rfl (Nat.le_of_ble_eq_true rfl) (c_X11_setOf l0 l1 (by omega) e8) (fun v_ h_ n_ q_ => ?_)
      obtain ⟨q1_, q2_, q3_⟩ := q_
      subst v_; subst h_; subst n_
      show WW W0 G 8 _ _ _ 23 [some (.ref l0), some (.int l1), some (.int l2), none, none, none, none, none] [.int v7] h n _ _
      refine rr_istore_n (i := 3) C dX11_review_23 rfl (by decide) ?_
      show WW W0 G 8 _ _ _ 24 [some (.ref l0), some (.int l1), some (.int l2), some (.int v7), none, none, none, none] [] h n _ _
      refine rr_iload_n (i := 3) C dX11_review_24 rfl rfl ?_
      refine rr_iconst (v := (-1)) C dX11_review_25 (by decide) ?_
      refine rr_icmp_ne (tgt := 31) C dX11_review_26 (by decide) (fun c26_ => ?_) (fun c26_ => ?_)
      · replace hr := (if_neg c26_).symm.trans hr
        refine rr_iload_n (i := 2) C dX11_review_31 rfl rfl ?_
        refine rr_if_ne (tgt := 37) C dX11_review_32 (by decide) (fun c32_ => ?_) (fun c32_ => ?_)
        · replace hr := (if_neg c32_).symm.trans hr
          refine rr_iload_n (i := 2) C dX11_review_37 rfl rfl ?_
          refine rr_iconst (v := 1) C dX11_review_38 (by decide) ?_
          refine rr_icmp_ne (tgt := 49) C dX11_review_39 (by decide) (fun c39_ => ?_) (fun c39_ => ?_)
          · replace hr := (if_neg c39_).symm.trans hr
            refine rr_iconst (v := 0) C dX11_review_49 (by decide) ?_
            refine rr_istore C dX11_review_50 (by decide) ?_
            show WW W0 G 8 _ _ _ 52 [some (.ref l0), some (.int l1), some (.int l2), some (.int v7), some (.int 0), none, none, none] [] h n _ _
            replace hr := Option.bind_eq_some_iff.mp hr
            obtain ⟨v48, e49, hr⟩ := hr
            refine rr_keep [true, false, true, true, true, false, false, false] (w_X11_review_52 C (by omega) l0 l2 v7 K 0 e49 ?_ ?_)
            · intro cx_
              replace hr := (if_pos cx_).symm.trans hr
              show WW W0 G 8 _ _ _ 133 [none, none, some (.int l2), none, some (.int v48.2.1), some (.int v48.2.2), none, none] [] h n _ _
              refine rr_iload_n (i := 2) C dX11_review_133 rfl rfl ?_
              refine rr_iconst (v := 2) C dX11_review_134 (by decide) ?_
              refine rr_icmp_ne (tgt := 143) C dX11_review_135 (by decide) (fun c135_ => ?_) (fun c135_ => ?_)
              · replace hr := (if_neg c135_).symm.trans hr
                refine rr_iload C dX11_review_143 rfl ?_
                obtain rfl := Option.some.inj hr
                exact rr_iret (ty := .int) C dX11_review_145 rfl rfl ⟨rfl, rfl, rfl⟩
              · replace hr := (if_pos c135_).symm.trans hr
                refine rr_iload C dX11_review_138 rfl ?_
                refine rr_goto (tgt := 145) C dX11_review_140 (by decide) ?_
                obtain rfl := Option.some.inj hr
                exact rr_iret (ty := .int) C dX11_review_145 rfl rfl ⟨rfl, rfl, rfl⟩
            · intro cx_
              replace hr := (if_neg (fun z_ => absurd (z_.symm.trans cx_) (by decide))).symm.trans hr
              replace hr := (if_pos cx_).symm.trans hr
              show WW W0 G 8 _ _ _ 158 [none, none, none, none, none, none, none, none] [] h n _ _
              refine rr_iconst (v := (-1)) C dX11_review_158 (by decide) ?_
              obtain rfl := Option.some.inj hr
              exact rr_iret (ty := .int) C dX11_review_159 rfl rfl ⟨rfl, rfl, rfl⟩
          · replace hr := (if_pos c39_).symm.trans hr
            refine rr_aload_n (i := 0) C dX11_review_42 rfl rfl ?_
            replace hr := Option.bind_eq_some_iff.mp hr
            obtain ⟨v9, e10, hr⟩ := hr
            refine rr_rdR C dX11_review_43 fl_X11_69 e10 ?_
            refine rr_iload_n (i := 3) C dX11_review_46 rfl rfl ?_
            replace hr := Option.bind_eq_some_iff.mp hr
            obtain ⟨a11, e12, hr⟩ := hr
            subst e12
            replace hr := Option.bind_eq_some_iff.mp hr
            obtain ⟨v13, e14, hr⟩ := hr
            refine rr_ldI C dX11_review_47 e14 ?_
            obtain rfl := Option.some.inj hr
            exact rr_iret (ty := .int) C dX11_review_48 rfl rfl ⟨rfl, rfl, rfl⟩
        · replace hr := (if_pos c32_).symm.trans hr
          refine rr_iload_n (i := 3) C dX11_review_35 rfl rfl ?_
          obtain rfl := Option.some.inj hr
          exact rr_iret (ty := .int) C dX11_review_36 rfl rfl ⟨rfl, rfl, rfl⟩
      · replace hr := (if_pos c26_).symm.trans hr
        refine rr_iconst (v := (-1)) C dX11_review_29 (by decide) ?_
        obtain rfl := Option.some.inj hr
        exact rr_iret (ty := .int) C dX11_review_30 rfl rfl ⟨rfl, rfl, rfl⟩
    · replace hr := (if_pos c13_).symm.trans hr
      refine rr_iconst (v := (-1)) C dX11_review_16 (by decide) ?_
      obtain rfl := Option.some.inj hr
      exact rr_iret (ty := .int) C dX11_review_17 rfl rfl ⟨rfl, rfl, rfl⟩
def q_X11_asks (K : Nat) (h : mm_H) (n : Nat) (l0 : Nat) (l1 : Int32) (l2 : Int32) : Option (mm_H) :=
  (rdR h n l0 10 61).bind fun v1 =>
  v1.bind fun a3 =>
  (stJ h n a3 0 (Int32.toInt64 l2)).bind fun h5 =>
  (rdR h5 n l0 10 61).bind fun v7 =>
  v7.bind fun a9 =>
  (stJ h5 n a9 1 (Int32.toInt64 l1)).bind fun h11 =>
  (rdR h11 n l0 10 61).bind fun v13 =>
  (rdR h11 n l0 10 59).bind fun v15 =>
  v15.bind fun a17 =>
  (ldI h11 n a17 l2).bind fun v19 =>
  v13.bind fun a21 =>
  (stJ h11 n a21 2 (Int32.toInt64 v19)).bind fun h23 =>
  (rdR h23 n l0 10 61).bind fun v25 =>
  (rdR h23 n l0 10 58).bind fun v27 =>
  v27.bind fun a29 =>
  (ldJ h23 n a29 l2).bind fun v31 =>
  v25.bind fun a33 =>
  (stJ h23 n a33 3 v31).bind fun h35 =>
  (rdR h35 n l0 10 61).bind fun v37 =>
  (rdR h35 n l0 10 60).bind fun v39 =>
  v39.bind fun a41 =>
  (ldI h35 n a41 l2).bind fun v43 =>
  v37.bind fun a45 =>
  (stJ h35 n a45 4 (Int32.toInt64 v43)).bind fun h47 =>
  some h47
set_option maxRecDepth 100000 in
set_option maxHeartbeats 4000000 in
theorem c_X11_asks {K : Nat} {G : mm_G} {l : Launch} {h : mm_H} {n : Nat} (l0 : Nat) (l1 : Int32) (l2 : Int32) {r_ : mm_H} (hn : 48 ≤ n) (hr : q_X11_asks K h n l0 l1 l2 = some r_) : Sp G l yX11_asks cX11_asks 3 none 0 0 0 [.ref l0, .int l1, .int l2] h n (fun v h' n' => v = none ∧ h' = r_ ∧ n' = n) := by
  refine Sp_of (by decide +kernel) (Nat.le_of_ble_eq_true rfl) hn ?_
  intro W0 hwl C
  subst hwl
  unfold q_X11_asks at hr
  show WW W0 G 3 0 0 _ 0 [some (.ref l0), some (.int l1), some (.int l2)] [] h n 0 0
  refine rr_aload_n (i := 0) C dX11_asks_0 rfl rfl ?_
  replace hr := Option.bind_eq_some_iff.mp hr
  obtain ⟨v1, e2, hr⟩ := hr
  refine rr_rdR C dX11_asks_1 fl_X11_150 e2 ?_
  refine rr_iconst (v := 0) C dX11_asks_4 (by decide) ?_
  refine rr_iload_n (i := 2) C dX11_asks_5 rfl rfl ?_
  refine rr_i2l C dX11_asks_6 ?_
  replace hr := Option.bind_eq_some_iff.mp hr
  obtain ⟨a3, e4, hr⟩ := hr
  subst e4
  replace hr := Option.bind_eq_some_iff.mp hr
  obtain ⟨h5, e6, hr⟩ := hr
  refine rr_stJ C dX11_asks_7 e6 ?_
  refine rr_aload_n (i := 0) C dX11_asks_8 rfl rfl ?_
  replace hr := Option.bind_eq_some_iff.mp hr
  obtain ⟨v7, e8, hr⟩ := hr
  refine rr_rdR C dX11_asks_9 fl_X11_150 e8 ?_
  refine rr_iconst (v := 1) C dX11_asks_12 (by decide) ?_
  refine rr_iload_n (i := 1) C dX11_asks_13 rfl rfl ?_
  refine rr_i2l C dX11_asks_14 ?_
  replace hr := Option.bind_eq_some_iff.mp hr
  obtain ⟨a9, e10, hr⟩ := hr
  subst e10
  replace hr := Option.bind_eq_some_iff.mp hr
  obtain ⟨h11, e12, hr⟩ := hr
  refine rr_stJ C dX11_asks_15 e12 ?_
  refine rr_aload_n (i := 0) C dX11_asks_16 rfl rfl ?_
  replace hr := Option.bind_eq_some_iff.mp hr
  obtain ⟨v13, e14, hr⟩ := hr
  refine rr_rdR C dX11_asks_17 fl_X11_150 e14 ?_
  refine rr_iconst (v := 2) C dX11_asks_20 (by decide) ?_
  refine rr_aload_n (i := 0) C dX11_asks_21 rfl rfl ?_
  replace hr := Option.bind_eq_some_iff.mp hr
  obtain ⟨v15, e16, hr⟩ := hr
  refine rr_rdR C dX11_asks_22 fl_X11_144 e16 ?_
  refine rr_iload_n (i := 2) C dX11_asks_25 rfl rfl ?_
  replace hr := Option.bind_eq_some_iff.mp hr
  obtain ⟨a17, e18, hr⟩ := hr
  subst e18
  replace hr := Option.bind_eq_some_iff.mp hr
  obtain ⟨v19, e20, hr⟩ := hr
  refine rr_ldI C dX11_asks_26 e20 ?_
  refine rr_i2l C dX11_asks_27 ?_
  replace hr := Option.bind_eq_some_iff.mp hr
  obtain ⟨a21, e22, hr⟩ := hr
  subst e22
  replace hr := Option.bind_eq_some_iff.mp hr
  obtain ⟨h23, e24, hr⟩ := hr
  refine rr_stJ C dX11_asks_28 e24 ?_
  refine rr_aload_n (i := 0) C dX11_asks_29 rfl rfl ?_
  replace hr := Option.bind_eq_some_iff.mp hr
  obtain ⟨v25, e26, hr⟩ := hr
  refine rr_rdR C dX11_asks_30 fl_X11_150 e26 ?_
  refine rr_iconst (v := 3) C dX11_asks_33 (by decide) ?_
  refine rr_aload_n (i := 0) C dX11_asks_34 rfl rfl ?_
  replace hr := Option.bind_eq_some_iff.mp hr
  obtain ⟨v27, e28, hr⟩ := hr
  refine rr_rdR C dX11_asks_35 fl_X11_141 e28 ?_
  refine rr_iload_n (i := 2) C dX11_asks_38 rfl rfl ?_
  replace hr := Option.bind_eq_some_iff.mp hr
  obtain ⟨a29, e30, hr⟩ := hr
  subst e30
  replace hr := Option.bind_eq_some_iff.mp hr
  obtain ⟨v31, e32, hr⟩ := hr
  refine rr_ldJ C dX11_asks_39 e32 ?_
  replace hr := Option.bind_eq_some_iff.mp hr
  obtain ⟨a33, e34, hr⟩ := hr
  subst e34
  replace hr := Option.bind_eq_some_iff.mp hr
  obtain ⟨h35, e36, hr⟩ := hr
  refine rr_stJ C dX11_asks_40 e36 ?_
  refine rr_aload_n (i := 0) C dX11_asks_41 rfl rfl ?_
  replace hr := Option.bind_eq_some_iff.mp hr
  obtain ⟨v37, e38, hr⟩ := hr
  refine rr_rdR C dX11_asks_42 fl_X11_150 e38 ?_
  refine rr_iconst (v := 4) C dX11_asks_45 (by decide) ?_
  refine rr_aload_n (i := 0) C dX11_asks_46 rfl rfl ?_
  replace hr := Option.bind_eq_some_iff.mp hr
  obtain ⟨v39, e40, hr⟩ := hr
  refine rr_rdR C dX11_asks_47 fl_X11_147 e40 ?_
  refine rr_iload_n (i := 2) C dX11_asks_50 rfl rfl ?_
  replace hr := Option.bind_eq_some_iff.mp hr
  obtain ⟨a41, e42, hr⟩ := hr
  subst e42
  replace hr := Option.bind_eq_some_iff.mp hr
  obtain ⟨v43, e44, hr⟩ := hr
  refine rr_ldI C dX11_asks_51 e44 ?_
  refine rr_i2l C dX11_asks_52 ?_
  replace hr := Option.bind_eq_some_iff.mp hr
  obtain ⟨a45, e46, hr⟩ := hr
  subst e46
  replace hr := Option.bind_eq_some_iff.mp hr
  obtain ⟨h47, e48, hr⟩ := hr
  refine rr_stJ C dX11_asks_53 e48 ?_
  obtain rfl := Option.some.inj hr
  exact rr_vret C dX11_asks_54 rfl ⟨rfl, rfl, rfl⟩
