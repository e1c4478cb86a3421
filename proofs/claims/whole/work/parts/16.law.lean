/-! ===== the law: what a call of each kind does, and that the machine does it ===== -/
def bud (a b : Nat) : Option Nat := if b ≤ a then some (a - b) else none
theorem bud_s {a b c : Nat} (e : bud a b = some c) : c + b = a := by
  unfold bud at e
  split at e
  · cases e; omega
  · cases e
/-- how many rounds a reading is given: 31, or two more than there is on the tape -/
def lawM9 (h : mm_H) (n : Nat) (a b : Int32) : Nat := match rdI h n 48 9 5, rdI h n 48 9 7 with
  | some t, some c => if 0 ≤ a ∧ a ≤ t ∧ 0 ≤ b ∧ b ≤ 2 ∧ c < 8 then min 31 (t.toNatClampNeg + 2) else 0
  | _, _ => 0
def lawM10 (h : mm_H) (n : Nat) (a : Int32) : Nat := match rdI h n 48 9 5 with
  | some t => if 0 ≤ a ∧ a ≤ t then min 31 (t.toNatClampNeg + 2) else 0
  | none => 0
def st_law_0 (K : Nat) (h : mm_H) (n : Nat) (l3 : Int32) (kc ks : Nat) : Option (mm_H × Nat × Nat × Nat) :=
  (ldI h n 0 (l3 + 1)).bind fun v1 =>
  (ckq h n 48 9).bind fun u3 =>
  (q_X10_day K h n 48 v1).bind fun v5 =>
  (ldI v5.2 n 0 (l3 + 1)).bind fun v7 =>
  (ckq v5.2 n 159 10).bind fun u9 =>
  (q_X11_day K v5.2 n 159 v7).bind fun v11 =>
  if v5.1 = v11.1 then
    some (v11.2, n, kc, ks)
  else
  none
set_option maxRecDepth 100000 in
set_option maxHeartbeats 4000000 in
theorem b_law_0 {K : Nat} {nm_ : String} {W0 : mm_X} {G : mm_G} {Q_ : State → Prop} {h : mm_H} {n kc ks : Nat} (C : mm_C W0 G cL_law yL_law.cls 4 600000 7302250 (some .boolean) 300 nm_) (hn : 160 ≤ n) (l3 : Int32) {r_ : mm_H × Nat × Nat × Nat} (hr : st_law_0 K h n l3 kc ks = some r_) (hx0 : n ≤ r_.2.1 → WW W0 G 4 600000 7302250 Q_ 1550 [some (.ref 0), some (.ref 48), some (.ref 159), some (.int l3)] [] r_.1 r_.2.1 r_.2.2.1 r_.2.2.2) : WW W0 G 4 600000 7302250 Q_ 180 [some (.ref 0), some (.ref 48), some (.ref 159), some (.int l3)] [] h n kc ks := by
  unfold st_law_0 at hr
  refine rr_aload_n (i := 1) C dL_law_180 rfl rfl ?_
  refine rr_aload_n (i := 0) C dL_law_181 rfl rfl ?_
  refine rr_iload_n (i := 3) C dL_law_182 rfl rfl ?_
  refine rr_iconst (v := 1) C dL_law_183 (by decide) ?_
  refine rr_iadd C dL_law_184 ?_
  replace hr := Option.bind_eq_some_iff.mp hr
  obtain ⟨v1, e2, hr⟩ := hr
  refine rr_ldI C dL_law_185 e2 ?_
  replace hr := Option.bind_eq_some_iff.mp hr
  obtain ⟨u3, e4, hr⟩ := hr
  replace hr := Option.bind_eq_some_iff.mp hr
  obtain ⟨v5, e6, hr⟩ := hr
  refine rr_callVq (as := [.int v1]) (st := []) (mc' := 0) (ms' := 0) C dL_law_186 iv_L_13 (by decide) e4 rfl (Nat.le_of_ble_eq_true rfl) (c_X10_day 48 v1 (by omega) e6) (fun v_ h_ n_ q_ => ?_)
  obtain ⟨q1_, q2_, q3_⟩ := q_
  subst v_; subst h_; subst n_
  show WW W0 G 4 _ _ _ 189 [some (.ref 0), some (.ref 48), some (.ref 159), some (.int l3)] [.int v5.1] v5.2 n _ _
  refine rr_aload_n (i := 2) C dL_law_189 rfl rfl ?_
  refine rr_aload_n (i := 0) C dL_law_190 rfl rfl ?_
  refine rr_iload_n (i := 3) C dL_law_191 rfl rfl ?_
  refine rr_iconst (v := 1) C dL_law_192 (by decide) ?_
  refine rr_iadd C dL_law_193 ?_
  replace hr := Option.bind_eq_some_iff.mp hr
  obtain ⟨v7, e8, hr⟩ := hr
  refine rr_ldI C dL_law_194 e8 ?_
  replace hr := Option.bind_eq_some_iff.mp hr
  obtain ⟨u9, e10, hr⟩ := hr
  replace hr := Option.bind_eq_some_iff.mp hr
  obtain ⟨v11, e12, hr⟩ := hr
  refine rr_callVq (as := [.int v7]) (st := [.int v5.1]) (mc' := 0) (ms' := 0) C dL_law_195 iv_L_17 (by decide) e10 rfl (Nat.le_of_ble_eq_true rfl) (c_X11_day 159 v7 (by omega) e12) (fun v_ h_ n_ q_ => ?_)
  obtain ⟨q1_, q2_, q3_⟩ := q_
  subst v_; subst h_; subst n_
  show WW W0 G 4 _ _ _ 198 [some (.ref 0), some (.ref 48), some (.ref 159), some (.int l3)] [.int v11.1, .int v5.1] v11.2 n _ _
  refine rr_icmp_eq (tgt := 1550) C dL_law_198 (by decide) (fun c198_ => ?_) (fun c198_ => ?_)
  · replace hr := (if_pos c198_).symm.trans hr
    obtain rfl := Option.some.inj hr
    exact hx0 (show n ≤ n from by omega)
  · replace hr := (if_neg c198_).symm.trans hr
    cases hr
def st_law_1 (K : Nat) (h : mm_H) (n : Nat) (l3 : Int32) (kc ks : Nat) : Option (mm_H × Nat × Nat × Nat) :=
  (ldI h n 0 (l3 + 1)).bind fun v1 =>
  (ckq h n 48 9).bind fun u3 =>
  (q_X10_firm K h n 48 v1).bind fun v5 =>
  (ldI v5.2 n 0 (l3 + 1)).bind fun v7 =>
  (ckq v5.2 n 159 10).bind fun u9 =>
  (q_X11_firm K v5.2 n 159 v7).bind fun v11 =>
  if v5.1 = v11.1 then
    some (v11.2, n, kc, ks)
  else
  none
set_option maxRecDepth 100000 in
set_option maxHeartbeats 4000000 in
theorem b_law_1 {K : Nat} {nm_ : String} {W0 : mm_X} {G : mm_G} {Q_ : State → Prop} {h : mm_H} {n kc ks : Nat} (C : mm_C W0 G cL_law yL_law.cls 4 600000 7302250 (some .boolean) 300 nm_) (hn : 160 ≤ n) (l3 : Int32) {r_ : mm_H × Nat × Nat × Nat} (hr : st_law_1 K h n l3 kc ks = some r_) (hx0 : n ≤ r_.2.1 → WW W0 G 4 600000 7302250 Q_ 1550 [some (.ref 0), some (.ref 48), some (.ref 159), some (.int l3)] [] r_.1 r_.2.1 r_.2.2.1 r_.2.2.2) : WW W0 G 4 600000 7302250 Q_ 203 [some (.ref 0), some (.ref 48), some (.ref 159), some (.int l3)] [] h n kc ks := by
  unfold st_law_1 at hr
  refine rr_aload_n (i := 1) C dL_law_203 rfl rfl ?_
  refine rr_aload_n (i := 0) C dL_law_204 rfl rfl ?_
  refine rr_iload_n (i := 3) C dL_law_205 rfl rfl ?_
  refine rr_iconst (v := 1) C dL_law_206 (by decide) ?_
  refine rr_iadd C dL_law_207 ?_
  replace hr := Option.bind_eq_some_iff.mp hr
  obtain ⟨v1, e2, hr⟩ := hr
  refine rr_ldI C dL_law_208 e2 ?_
  replace hr := Option.bind_eq_some_iff.mp hr
  obtain ⟨u3, e4, hr⟩ := hr
  replace hr := Option.bind_eq_some_iff.mp hr
  obtain ⟨v5, e6, hr⟩ := hr
  refine rr_callVq (as := [.int v1]) (st := []) (mc' := 0) (ms' := 0) C dL_law_209 iv_L_18 (by decide) e4 rfl (Nat.le_of_ble_eq_true rfl) (c_X10_firm 48 v1 (by omega) e6) (fun v_ h_ n_ q_ => ?_)
  obtain ⟨q1_, q2_, q3_⟩ := q_
  subst v_; subst h_; subst n_
  show WW W0 G 4 _ _ _ 212 [some (.ref 0), some (.ref 48), some (.ref 159), some (.int l3)] [.int v5.1] v5.2 n _ _
  refine rr_aload_n (i := 2) C dL_law_212 rfl rfl ?_
  refine rr_aload_n (i := 0) C dL_law_213 rfl rfl ?_
  refine rr_iload_n (i := 3) C dL_law_214 rfl rfl ?_
  refine rr_iconst (v := 1) C dL_law_215 (by decide) ?_
  refine rr_iadd C dL_law_216 ?_
  replace hr := Option.bind_eq_some_iff.mp hr
  obtain ⟨v7, e8, hr⟩ := hr
  refine rr_ldI C dL_law_217 e8 ?_
  replace hr := Option.bind_eq_some_iff.mp hr
  obtain ⟨u9, e10, hr⟩ := hr
  replace hr := Option.bind_eq_some_iff.mp hr
  obtain ⟨v11, e12, hr⟩ := hr
  refine rr_callVq (as := [.int v7]) (st := [.int v5.1]) (mc' := 0) (ms' := 0) C dL_law_218 iv_L_22 (by decide) e10 rfl (Nat.le_of_ble_eq_true rfl) (c_X11_firm 159 v7 (by omega) e12) (fun v_ h_ n_ q_ => ?_)
  obtain ⟨q1_, q2_, q3_⟩ := q_
  subst v_; subst h_; subst n_
  show WW W0 G 4 _ _ _ 221 [some (.ref 0), some (.ref 48), some (.ref 159), some (.int l3)] [.int v11.1, .int v5.1] v11.2 n _ _
  refine rr_icmp_eq (tgt := 1550) C dL_law_221 (by decide) (fun c221_ => ?_) (fun c221_ => ?_)
  · replace hr := (if_pos c221_).symm.trans hr
    obtain rfl := Option.some.inj hr
    exact hx0 (show n ≤ n from by omega)
  · replace hr := (if_neg c221_).symm.trans hr
    cases hr
def st_law_2 (K : Nat) (h : mm_H) (n : Nat) (l3 : Int32) (kc ks : Nat) : Option (mm_H × Nat × Nat × Nat) :=
  (ldI h n 0 (l3 + 1)).bind fun v1 =>
  (ldI h n 0 (l3 + 2)).bind fun v3 =>
  (ldI h n 0 (l3 + 3)).bind fun v5 =>
  (ldI h n 0 (l3 + 4)).bind fun v7 =>
  (ckq h n 48 9).bind fun u9 =>
  (q_X10_fact K h n 48 v1 v3 v5 v7).bind fun v11 =>
  (ldI v11.2 n 0 (l3 + 1)).bind fun v13 =>
  (ldI v11.2 n 0 (l3 + 2)).bind fun v15 =>
  (ldI v11.2 n 0 (l3 + 3)).bind fun v17 =>
  (ldI v11.2 n 0 (l3 + 4)).bind fun v19 =>
  (ckq v11.2 n 159 10).bind fun u21 =>
  (q_X11_fact K v11.2 n 159 v13 v15 v17 v19).bind fun v23 =>
  if v11.1 = v23.1 then
    some (v23.2, n, kc, ks)
  else
  none
set_option maxRecDepth 100000 in
set_option maxHeartbeats 4000000 in
theorem b_law_2 {K : Nat} {nm_ : String} {W0 : mm_X} {G : mm_G} {Q_ : State → Prop} {h : mm_H} {n kc ks : Nat} (C : mm_C W0 G cL_law yL_law.cls 4 600000 7302250 (some .boolean) 300 nm_) (hn : 160 ≤ n) (l3 : Int32) {r_ : mm_H × Nat × Nat × Nat} (hr : st_law_2 K h n l3 kc ks = some r_) (hx0 : n ≤ r_.2.1 → WW W0 G 4 600000 7302250 Q_ 1550 [some (.ref 0), some (.ref 48), some (.ref 159), some (.int l3)] [] r_.1 r_.2.1 r_.2.2.1 r_.2.2.2) : WW W0 G 4 600000 7302250 Q_ 226 [some (.ref 0), some (.ref 48), some (.ref 159), some (.int l3)] [] h n kc ks := by
  unfold st_law_2 at hr
  refine rr_aload_n (i := 1) C dL_law_226 rfl rfl ?_
  refine rr_aload_n (i := 0) C dL_law_227 rfl rfl ?_
  refine rr_iload_n (i := 3) C dL_law_228 rfl rfl ?_
  refine rr_iconst (v := 1) C dL_law_229 (by decide) ?_
  refine rr_iadd C dL_law_230 ?_
  replace hr := Option.bind_eq_some_iff.mp hr
  obtain ⟨v1, e2, hr⟩ := hr
  refine rr_ldI C dL_law_231 e2 ?_
  refine rr_aload_n (i := 0) C dL_law_232 rfl rfl ?_
  refine rr_iload_n (i := 3) C dL_law_233 rfl rfl ?_
  refine rr_iconst (v := 2) C dL_law_234 (by decide) ?_
  refine rr_iadd C dL_law_235 ?_
  replace hr := Option.bind_eq_some_iff.mp hr
  obtain ⟨v3, e4, hr⟩ := hr
  refine rr_ldI C dL_law_236 e4 ?_
  refine rr_aload_n (i := 0) C dL_law_237 rfl rfl ?_
  refine rr_iload_n (i := 3) C dL_law_238 rfl rfl ?_
  refine rr_iconst (v := 3) C dL_law_239 (by decide) ?_
  refine rr_iadd C dL_law_240 ?_
  replace hr := Option.bind_eq_some_iff.mp hr
  obtain ⟨v5, e6, hr⟩ := hr
  refine rr_ldI C dL_law_241 e6 ?_
  refine rr_aload_n (i := 0) C dL_law_242 rfl rfl ?_
  refine rr_iload_n (i := 3) C dL_law_243 rfl rfl ?_
  refine rr_iconst (v := 4) C dL_law_244 (by decide) ?_
  refine rr_iadd C dL_law_245 ?_
  replace hr := Option.bind_eq_some_iff.mp hr
  obtain ⟨v7, e8, hr⟩ := hr
  refine rr_ldI C dL_law_246 e8 ?_
  replace hr := Option.bind_eq_some_iff.mp hr
  obtain ⟨u9, e10, hr⟩ := hr
  replace hr := Option.bind_eq_some_iff.mp hr
  obtain ⟨v11, e12, hr⟩ := hr
  refine rr_callVq (as := [.int v1, .int v3, .int v5, .int v7]) (st := []) (mc' := 0) (ms' := 0) C dL_law_247 iv_L_23 (by decide) e10 rfl (Nat.le_of_ble_eq_true rfl) (c_X10_fact 48 v1 v3 v5 v7 (by omega) e12) (fun v_ h_ n_ q_ => ?_)
  obtain ⟨q1_, q2_, q3_⟩ := q_
  subst v_; subst h_; subst n_
  show WW W0 G 4 _ _ _ 250 [some (.ref 0), some (.ref 48), some (.ref 159), some (.int l3)] [.int v11.1] v11.2 n _ _
  refine rr_aload_n (i := 2) C dL_law_250 rfl rfl ?_
  refine rr_aload_n (i := 0) C dL_law_251 rfl rfl ?_
  refine rr_iload_n (i := 3) C dL_law_252 rfl rfl ?_
  refine rr_iconst (v := 1) C dL_law_253 (by decide) ?_
  refine rr_iadd C dL_law_254 ?_
  replace hr := Option.bind_eq_some_iff.mp hr
  obtain ⟨v13, e14, hr⟩ := hr
  refine rr_ldI C dL_law_255 e14 ?_
  refine rr_aload_n (i := 0) C dL_law_256 rfl rfl ?_
  refine rr_iload_n (i := 3) C dL_law_257 rfl rfl ?_
  refine rr_iconst (v := 2) C dL_law_258 (by decide) ?_
  refine rr_iadd C dL_law_259 ?_
  replace hr := Option.bind_eq_some_iff.mp hr
  obtain ⟨v15, e16, hr⟩ := hr
  refine rr_ldI C dL_law_260 e16 ?_
  refine rr_aload_n (i := 0) C dL_law_261 rfl rfl ?_
  refine rr_iload_n (i := 3) C dL_law_262 rfl rfl ?_
  refine rr_iconst (v := 3) C dL_law_263 (by decide) ?_
  refine rr_iadd C dL_law_264 ?_
  replace hr := Option.bind_eq_some_iff.mp hr
  obtain ⟨v17, e18, hr⟩ := hr
  refine rr_ldI C dL_law_265 e18 ?_
  refine rr_aload_n (i := 0) C dL_law_266 rfl rfl ?_
  refine rr_iload_n (i := 3) C dL_law_267 rfl rfl ?_
  refine rr_iconst (v := 4) C dL_law_268 (by decide) ?_
  refine rr_iadd C dL_law_269 ?_
  replace hr := Option.bind_eq_some_iff.mp hr
  obtain ⟨v19, e20, hr⟩ := hr
  refine rr_ldI C dL_law_270 e20 ?_
  replace hr := Option.bind_eq_some_iff.mp hr
  obtain ⟨u21, e22, hr⟩ := hr
  replace hr := Option.bind_eq_some_iff.mp hr
  obtain ⟨v23, e24, hr⟩ := hr
  refine rr_callVq (as := [.int v13, .int v15, .int v17, .int v19]) (st := [.int v11.1]) (mc' := 0) (ms' := 0) C dL_law_271 iv_L_27 (by decide) e22 rfl (Nat.le_of_ble_eq_true rfl) (c_X11_fact 159 v13 v15 v17 v19 (by omega) e24) (fun v_ h_ n_ q_ => ?_)
  obtain ⟨q1_, q2_, q3_⟩ := q_
  subst v_; subst h_; subst n_
  show WW W0 G 4 _ _ _ 274 [some (.ref 0), some (.ref 48), some (.ref 159), some (.int l3)] [.int v23.1, .int v11.1] v23.2 n _ _
  refine rr_icmp_eq (tgt := 1550) C dL_law_274 (by decide) (fun c274_ => ?_) (fun c274_ => ?_)
  · replace hr := (if_pos c274_).symm.trans hr
    obtain rfl := Option.some.inj hr
    exact hx0 (show n ≤ n from by omega)
  · replace hr := (if_neg c274_).symm.trans hr
    cases hr
def st_law_3 (K : Nat) (h : mm_H) (n : Nat) (l3 : Int32) (kc ks : Nat) : Option (mm_H × Nat × Nat × Nat) :=
  (ldI h n 0 (l3 + 1)).bind fun v1 =>
  (ldI h n 0 (l3 + 2)).bind fun v3 =>
  (ldI h n 0 (l3 + 3)).bind fun v5 =>
  (ldI h n 0 (l3 + 4)).bind fun v7 =>
  (ckq h n 48 9).bind fun u9 =>
  (q_X10_known K h n 48 v1 v3 v5 v7).bind fun v11 =>
  (ldI h n 0 (l3 + 1)).bind fun v13 =>
  (ldI h n 0 (l3 + 2)).bind fun v15 =>
  (ldI h n 0 (l3 + 3)).bind fun v17 =>
  (ldI h n 0 (l3 + 4)).bind fun v19 =>
  (ckq h n 159 10).bind fun u21 =>
  (q_X11_known K h n 159 v13 v15 v17 v19).bind fun v23 =>
  if v11 = v23 then
    some (h, n, kc, ks)
  else
  none
set_option maxRecDepth 100000 in
set_option maxHeartbeats 4000000 in
theorem b_law_3 {K : Nat} {nm_ : String} {W0 : mm_X} {G : mm_G} {Q_ : State → Prop} {h : mm_H} {n kc ks : Nat} (C : mm_C W0 G cL_law yL_law.cls 4 600000 7302250 (some .boolean) 300 nm_) (hn : 160 ≤ n) (l3 : Int32) {r_ : mm_H × Nat × Nat × Nat} (hr : st_law_3 K h n l3 kc ks = some r_) (hx0 : n ≤ r_.2.1 → WW W0 G 4 600000 7302250 Q_ 1550 [some (.ref 0), some (.ref 48), some (.ref 159), some (.int l3)] [] r_.1 r_.2.1 r_.2.2.1 r_.2.2.2) : WW W0 G 4 600000 7302250 Q_ 279 [some (.ref 0), some (.ref 48), some (.ref 159), some (.int l3)] [] h n kc ks := by
  unfold st_law_3 at hr
  refine rr_aload_n (i := 1) C dL_law_279 rfl rfl ?_
  refine rr_aload_n (i := 0) C dL_law_280 rfl rfl ?_
  refine rr_iload_n (i := 3) C dL_law_281 rfl rfl ?_
  refine rr_iconst (v := 1) C dL_law_282 (by decide) ?_
  refine rr_iadd C dL_law_283 ?_
  replace hr := Option.bind_eq_some_iff.mp hr
  obtain ⟨v1, e2, hr⟩ := hr
  refine rr_ldI C dL_law_284 e2 ?_
  refine rr_aload_n (i := 0) C dL_law_285 rfl rfl ?_
  refine rr_iload_n (i := 3) C dL_law_286 rfl rfl ?_
  refine rr_iconst (v := 2) C dL_law_287 (by decide) ?_
  refine rr_iadd C dL_law_288 ?_
  replace hr := Option.bind_eq_some_iff.mp hr
  obtain ⟨v3, e4, hr⟩ := hr
  refine rr_ldI C dL_law_289 e4 ?_
  refine rr_aload_n (i := 0) C dL_law_290 rfl rfl ?_
  refine rr_iload_n (i := 3) C dL_law_291 rfl rfl ?_
  refine rr_iconst (v := 3) C dL_law_292 (by decide) ?_
  refine rr_iadd C dL_law_293 ?_
  replace hr := Option.bind_eq_some_iff.mp hr
  obtain ⟨v5, e6, hr⟩ := hr
  refine rr_ldI C dL_law_294 e6 ?_
  refine rr_aload_n (i := 0) C dL_law_295 rfl rfl ?_
  refine rr_iload_n (i := 3) C dL_law_296 rfl rfl ?_
  refine rr_iconst (v := 4) C dL_law_297 (by decide) ?_
  refine rr_iadd C dL_law_298 ?_
  replace hr := Option.bind_eq_some_iff.mp hr
  obtain ⟨v7, e8, hr⟩ := hr
  refine rr_ldI C dL_law_299 e8 ?_
  replace hr := Option.bind_eq_some_iff.mp hr
  obtain ⟨u9, e10, hr⟩ := hr
  replace hr := Option.bind_eq_some_iff.mp hr
  obtain ⟨v11, e12, hr⟩ := hr
  refine rr_callVq (as := [.int v1, .int v3, .int v5, .int v7]) (st := []) (mc' := 0) (ms' := 0) C dL_law_300 iv_L_28 (by decide) e10 rfl (Nat.le_of_ble_eq_true rfl) (c_X10_known 48 v1 v3 v5 v7 (by omega) e12) (fun v_ h_ n_ q_ => ?_)
  obtain ⟨q1_, q2_, q3_⟩ := q_
  subst v_; subst h_; subst n_
  show WW W0 G 4 _ _ _ 303 [some (.ref 0), some (.ref 48), some (.ref 159), some (.int l3)] [.int v11] h n _ _
  refine rr_aload_n (i := 2) C dL_law_303 rfl rfl ?_
  refine rr_aload_n (i := 0) C dL_law_304 rfl rfl ?_
  refine rr_iload_n (i := 3) C dL_law_305 rfl rfl ?_
  refine rr_iconst (v := 1) C dL_law_306 (by decide) ?_
  refine rr_iadd C dL_law_307 ?_
  replace hr := Option.bind_eq_some_iff.mp hr
  obtain ⟨v13, e14, hr⟩ := hr
  refine rr_ldI C dL_law_308 e14 ?_
  refine rr_aload_n (i := 0) C dL_law_309 rfl rfl ?_
  refine rr_iload_n (i := 3) C dL_law_310 rfl rfl ?_
  refine rr_iconst (v := 2) C dL_law_311 (by decide) ?_
  refine rr_iadd C dL_law_312 ?_
  replace hr := Option.bind_eq_some_iff.mp hr
  obtain ⟨v15, e16, hr⟩ := hr
  refine rr_ldI C dL_law_313 e16 ?_
  refine rr_aload_n (i := 0) C dL_law_314 rfl rfl ?_
  refine rr_iload_n (i := 3) C dL_law_315 rfl rfl ?_
  refine rr_iconst (v := 3) C dL_law_316 (by decide) ?_
  refine rr_iadd C dL_law_317 ?_
  replace hr := Option.bind_eq_some_iff.mp hr
  obtain ⟨v17, e18, hr⟩ := hr
  refine rr_ldI C dL_law_318 e18 ?_
  refine rr_aload_n (i := 0) C dL_law_319 rfl rfl ?_
  refine rr_iload_n (i := 3) C dL_law_320 rfl rfl ?_
  refine rr_iconst (v := 4) C dL_law_321 (by decide) ?_
  refine rr_iadd C dL_law_322 ?_
  replace hr := Option.bind_eq_some_iff.mp hr
  obtain ⟨v19, e20, hr⟩ := hr
  refine rr_ldI C dL_law_323 e20 ?_
  replace hr := Option.bind_eq_some_iff.mp hr
  obtain ⟨u21, e22, hr⟩ := hr
  replace hr := Option.bind_eq_some_iff.mp hr
  obtain ⟨v23, e24, hr⟩ := hr
  refine rr_callVq (as := [.int v13, .int v15, .int v17, .int v19]) (st := [.int v11]) (mc' := 0) (ms' := 0) C dL_law_324 iv_L_31 (by decide) e22 rfl (Nat.le_of_ble_eq_true rfl) (c_X11_known 159 v13 v15 v17 v19 (by omega) e24) (fun v_ h_ n_ q_ => ?_)
  obtain ⟨q1_, q2_, q3_⟩ := q_
  subst v_; subst h_; subst n_
  show WW W0 G 4 _ _ _ 327 [some (.ref 0), some (.ref 48), some (.ref 159), some (.int l3)] [.int v23, .int v11] h n _ _
  refine rr_icmp_eq (tgt := 1550) C dL_law_327 (by decide) (fun c327_ => ?_) (fun c327_ => ?_)
  · replace hr := (if_pos c327_).symm.trans hr
    obtain rfl := Option.some.inj hr
    exact hx0 (show n ≤ n from by omega)
  · replace hr := (if_neg c327_).symm.trans hr
    cases hr
def st_law_4 (K : Nat) (h : mm_H) (n : Nat) (l3 : Int32) (kc ks : Nat) : Option (mm_H × Nat × Nat × Nat) :=
  (ldI h n 0 (l3 + 1)).bind fun v1 =>
  (ldI h n 0 (l3 + 2)).bind fun v3 =>
  (ldI h n 0 (l3 + 3)).bind fun v5 =>
  (ckq h n 48 9).bind fun u7 =>
  (q_X10_work K h n 48 v1 v3 v5).bind fun v9 =>
  (ldI v9.2 n 0 (l3 + 1)).bind fun v11 =>
  (ldI v9.2 n 0 (l3 + 2)).bind fun v13 =>
  (ldI v9.2 n 0 (l3 + 3)).bind fun v15 =>
  (ckq v9.2 n 159 10).bind fun u17 =>
  (q_X11_work K v9.2 n 159 v11 v13 v15).bind fun v19 =>
  if v9.1 = v19.1 then
    some (v19.2, n, kc, ks)
  else
  none
set_option maxRecDepth 100000 in
set_option maxHeartbeats 4000000 in
theorem b_law_4 {K : Nat} {nm_ : String} {W0 : mm_X} {G : mm_G} {Q_ : State → Prop} {h : mm_H} {n kc ks : Nat} (C : mm_C W0 G cL_law yL_law.cls 4 600000 7302250 (some .boolean) 300 nm_) (hn : 160 ≤ n) (l3 : Int32) {r_ : mm_H × Nat × Nat × Nat} (hr : st_law_4 K h n l3 kc ks = some r_) (hx0 : n ≤ r_.2.1 → WW W0 G 4 600000 7302250 Q_ 1550 [some (.ref 0), some (.ref 48), some (.ref 159), some (.int l3)] [] r_.1 r_.2.1 r_.2.2.1 r_.2.2.2) : WW W0 G 4 600000 7302250 Q_ 332 [some (.ref 0), some (.ref 48), some (.ref 159), some (.int l3)] [] h n kc ks := by
  unfold st_law_4 at hr
  refine rr_aload_n (i := 1) C dL_law_332 rfl rfl ?_
  refine rr_aload_n (i := 0) C dL_law_333 rfl rfl ?_
  refine rr_iload_n (i := 3) C dL_law_334 rfl rfl ?_
  refine rr_iconst (v := 1) C dL_law_335 (by decide) ?_
  refine rr_iadd C dL_law_336 ?_
  replace hr := Option.bind_eq_some_iff.mp hr
  obtain ⟨v1, e2, hr⟩ := hr
  refine rr_ldI C dL_law_337 e2 ?_
  refine rr_aload_n (i := 0) C dL_law_338 rfl rfl ?_
  refine rr_iload_n (i := 3) C dL_law_339 rfl rfl ?_
  refine rr_iconst (v := 2) C dL_law_340 (by decide) ?_
  refine rr_iadd C dL_law_341 ?_
  replace hr := Option.bind_eq_some_iff.mp hr
  obtain ⟨v3, e4, hr⟩ := hr
  refine rr_ldI C dL_law_342 e4 ?_
  refine rr_aload_n (i := 0) C dL_law_343 rfl rfl ?_
  refine rr_iload_n (i := 3) C dL_law_344 rfl rfl ?_
  refine rr_iconst (v := 3) C dL_law_345 (by decide) ?_
  refine rr_iadd C dL_law_346 ?_
  replace hr := Option.bind_eq_some_iff.mp hr
  obtain ⟨v5, e6, hr⟩ := hr
  refine rr_ldI C dL_law_347 e6 ?_
  replace hr := Option.bind_eq_some_iff.mp hr
  obtain ⟨u7, e8, hr⟩ := hr
  replace hr := Option.bind_eq_some_iff.mp hr
  obtain ⟨v9, e10, hr⟩ := hr
  refine rr_callVq (as := [.int v1, .int v3, .int v5]) (st := []) (mc' := 0) (ms' := 0) C dL_law_348 iv_L_32 (by decide) e8 rfl (Nat.le_of_ble_eq_true rfl) (c_X10_work 48 v1 v3 v5 (by omega) e10) (fun v_ h_ n_ q_ => ?_)
  obtain ⟨q1_, q2_, q3_⟩ := q_
  subst v_; subst h_; subst n_
  show WW W0 G 4 _ _ _ 351 [some (.ref 0), some (.ref 48), some (.ref 159), some (.int l3)] [.int v9.1] v9.2 n _ _
  refine rr_aload_n (i := 2) C dL_law_351 rfl rfl ?_
  refine rr_aload_n (i := 0) C dL_law_352 rfl rfl ?_
  refine rr_iload_n (i := 3) C dL_law_353 rfl rfl ?_
  refine rr_iconst (v := 1) C dL_law_354 (by decide) ?_
  refine rr_iadd C dL_law_355 ?_
  replace hr := Option.bind_eq_some_iff.mp hr
  obtain ⟨v11, e12, hr⟩ := hr
  refine rr_ldI C dL_law_356 e12 ?_
  refine rr_aload_n (i := 0) C dL_law_357 rfl rfl ?_
  refine rr_iload_n (i := 3) C dL_law_358 rfl rfl ?_
  refine rr_iconst (v := 2) C dL_law_359 (by decide) ?_
  refine rr_iadd C dL_law_360 ?_
  replace hr := Option.bind_eq_some_iff.mp hr
  obtain ⟨v13, e14, hr⟩ := hr
  refine rr_ldI C dL_law_361 e14 ?_
  refine rr_aload_n (i := 0) C dL_law_362 rfl rfl ?_
  refine rr_iload_n (i := 3) C dL_law_363 rfl rfl ?_
  refine rr_iconst (v := 3) C dL_law_364 (by decide) ?_
  refine rr_iadd C dL_law_365 ?_
  replace hr := Option.bind_eq_some_iff.mp hr
  obtain ⟨v15, e16, hr⟩ := hr
  refine rr_ldI C dL_law_366 e16 ?_
  replace hr := Option.bind_eq_some_iff.mp hr
  obtain ⟨u17, e18, hr⟩ := hr
  replace hr := Option.bind_eq_some_iff.mp hr
  obtain ⟨v19, e20, hr⟩ := hr
  refine rr_callVq (as := [.int v11, .int v13, .int v15]) (st := [.int v9.1]) (mc' := 0) (ms' := 0) C dL_law_367 iv_L_36 (by decide) e18 rfl (Nat.le_of_ble_eq_true rfl) (c_X11_work 159 v11 v13 v15 (by omega) e20) (fun v_ h_ n_ q_ => ?_)
  obtain ⟨q1_, q2_, q3_⟩ := q_
  subst v_; subst h_; subst n_
  show WW W0 G 4 _ _ _ 370 [some (.ref 0), some (.ref 48), some (.ref 159), some (.int l3)] [.int v19.1, .int v9.1] v19.2 n _ _
  refine rr_icmp_eq (tgt := 1550) C dL_law_370 (by decide) (fun c370_ => ?_) (fun c370_ => ?_)
  · replace hr := (if_pos c370_).symm.trans hr
    obtain rfl := Option.some.inj hr
    exact hx0 (show n ≤ n from by omega)
  · replace hr := (if_neg c370_).symm.trans hr
    cases hr
def st_law_5 (K : Nat) (h : mm_H) (n : Nat) (l3 : Int32) (kc ks : Nat) : Option (mm_H × Nat × Nat × Nat) :=
  (ldI h n 0 (l3 + 1)).bind fun v1 =>
  (ckq h n 48 9).bind fun u3 =>
  (q_X10_done K h n 48 v1).bind fun v5 =>
  (ldI v5.2 n 0 (l3 + 1)).bind fun v7 =>
  (ckq v5.2 n 159 10).bind fun u9 =>
  (q_X11_done K v5.2 n 159 v7).bind fun v11 =>
  if v5.1 = v11.1 then
    some (v11.2, n, kc, ks)
  else
  none
set_option maxRecDepth 100000 in
set_option maxHeartbeats 4000000 in
theorem b_law_5 {K : Nat} {nm_ : String} {W0 : mm_X} {G : mm_G} {Q_ : State → Prop} {h : mm_H} {n kc ks : Nat} (C : mm_C W0 G cL_law yL_law.cls 4 600000 7302250 (some .boolean) 300 nm_) (hn : 160 ≤ n) (l3 : Int32) {r_ : mm_H × Nat × Nat × Nat} (hr : st_law_5 K h n l3 kc ks = some r_) (hx0 : n ≤ r_.2.1 → WW W0 G 4 600000 7302250 Q_ 1550 [some (.ref 0), some (.ref 48), some (.ref 159), some (.int l3)] [] r_.1 r_.2.1 r_.2.2.1 r_.2.2.2) : WW W0 G 4 600000 7302250 Q_ 375 [some (.ref 0), some (.ref 48), some (.ref 159), some (.int l3)] [] h n kc ks := by
  unfold st_law_5 at hr
  refine rr_aload_n (i := 1) C dL_law_375 rfl rfl ?_
  refine rr_aload_n (i := 0) C dL_law_376 rfl rfl ?_
  refine rr_iload_n (i := 3) C dL_law_377 rfl rfl ?_
  refine rr_iconst (v := 1) C dL_law_378 (by decide) ?_
  refine rr_iadd C dL_law_379 ?_
  replace hr := Option.bind_eq_some_iff.mp hr
  obtain ⟨v1, e2, hr⟩ := hr
  refine rr_ldI C dL_law_380 e2 ?_
  replace hr := Option.bind_eq_some_iff.mp hr
  obtain ⟨u3, e4, hr⟩ := hr
  replace hr := Option.bind_eq_some_iff.mp hr
  obtain ⟨v5, e6, hr⟩ := hr
  refine rr_callVq (as := [.int v1]) (st := []) (mc' := 0) (ms' := 0) C dL_law_381 iv_L_37 (by decide) e4 rfl (Nat.le_of_ble_eq_true rfl) (c_X10_done 48 v1 (by omega) e6) (fun v_ h_ n_ q_ => ?_)
  obtain ⟨q1_, q2_, q3_⟩ := q_
  subst v_; subst h_; subst n_
  show WW W0 G 4 _ _ _ 384 [some (.ref 0), some (.ref 48), some (.ref 159), some (.int l3)] [.int v5.1] v5.2 n _ _
  refine rr_aload_n (i := 2) C dL_law_384 rfl rfl ?_
  refine rr_aload_n (i := 0) C dL_law_385 rfl rfl ?_
  refine rr_iload_n (i := 3) C dL_law_386 rfl rfl ?_
  refine rr_iconst (v := 1) C dL_law_387 (by decide) ?_
  refine rr_iadd C dL_law_388 ?_
  replace hr := Option.bind_eq_some_iff.mp hr
  obtain ⟨v7, e8, hr⟩ := hr
  refine rr_ldI C dL_law_389 e8 ?_
  replace hr := Option.bind_eq_some_iff.mp hr
  obtain ⟨u9, e10, hr⟩ := hr
  replace hr := Option.bind_eq_some_iff.mp hr
  obtain ⟨v11, e12, hr⟩ := hr
  refine rr_callVq (as := [.int v7]) (st := [.int v5.1]) (mc' := 0) (ms' := 0) C dL_law_390 iv_L_40 (by decide) e10 rfl (Nat.le_of_ble_eq_true rfl) (c_X11_done 159 v7 (by omega) e12) (fun v_ h_ n_ q_ => ?_)
  obtain ⟨q1_, q2_, q3_⟩ := q_
  subst v_; subst h_; subst n_
  show WW W0 G 4 _ _ _ 393 [some (.ref 0), some (.ref 48), some (.ref 159), some (.int l3)] [.int v11.1, .int v5.1] v11.2 n _ _
  refine rr_icmp_eq (tgt := 1550) C dL_law_393 (by decide) (fun c393_ => ?_) (fun c393_ => ?_)
  · replace hr := (if_pos c393_).symm.trans hr
    obtain rfl := Option.some.inj hr
    exact hx0 (show n ≤ n from by omega)
  · replace hr := (if_neg c393_).symm.trans hr
    cases hr
def st_law_6 (K : Nat) (h : mm_H) (n : Nat) (l3 : Int32) (kc ks : Nat) : Option (mm_H × Nat × Nat × Nat) :=
  (ldI h n 0 (l3 + 1)).bind fun v1 =>
  (ldI h n 0 (l3 + 2)).bind fun v3 =>
  (ldI h n 0 (l3 + 3)).bind fun v5 =>
  (ldI h n 0 (l3 + 4)).bind fun v7 =>
  (ckq h n 48 9).bind fun u9 =>
  (q_X10_bench K h n 48 v1 v3 v5 v7).bind fun v11 =>
  (ldI v11.2 n 0 (l3 + 1)).bind fun v13 =>
  (ldI v11.2 n 0 (l3 + 2)).bind fun v15 =>
  (ldI v11.2 n 0 (l3 + 3)).bind fun v17 =>
  (ldI v11.2 n 0 (l3 + 4)).bind fun v19 =>
  (ckq v11.2 n 159 10).bind fun u21 =>
  (q_X11_bench K v11.2 n 159 v13 v15 v17 v19).bind fun v23 =>
  if v11.1 = v23.1 then
    some (v23.2, n, kc, ks)
  else
  none
set_option maxRecDepth 100000 in
set_option maxHeartbeats 4000000 in
theorem b_law_6 {K : Nat} {nm_ : String} {W0 : mm_X} {G : mm_G} {Q_ : State → Prop} {h : mm_H} {n kc ks : Nat} (C : mm_C W0 G cL_law yL_law.cls 4 600000 7302250 (some .boolean) 300 nm_) (hn : 160 ≤ n) (l3 : Int32) {r_ : mm_H × Nat × Nat × Nat} (hr : st_law_6 K h n l3 kc ks = some r_) (hx0 : n ≤ r_.2.1 → WW W0 G 4 600000 7302250 Q_ 1550 [some (.ref 0), some (.ref 48), some (.ref 159), some (.int l3)] [] r_.1 r_.2.1 r_.2.2.1 r_.2.2.2) : WW W0 G 4 600000 7302250 Q_ 398 [some (.ref 0), some (.ref 48), some (.ref 159), some (.int l3)] [] h n kc ks := by
  unfold st_law_6 at hr
  refine rr_aload_n (i := 1) C dL_law_398 rfl rfl ?_
  refine rr_aload_n (i := 0) C dL_law_399 rfl rfl ?_
  refine rr_iload_n (i := 3) C dL_law_400 rfl rfl ?_
  refine rr_iconst (v := 1) C dL_law_401 (by decide) ?_
  refine rr_iadd C dL_law_402 ?_
  replace hr := Option.bind_eq_some_iff.mp hr
  obtain ⟨v1, e2, hr⟩ := hr
  refine rr_ldI C dL_law_403 e2 ?_
  refine rr_aload_n (i := 0) C dL_law_404 rfl rfl ?_
  refine rr_iload_n (i := 3) C dL_law_405 rfl rfl ?_
  refine rr_iconst (v := 2) C dL_law_406 (by decide) ?_
  refine rr_iadd C dL_law_407 ?_
  replace hr := Option.bind_eq_some_iff.mp hr
  obtain ⟨v3, e4, hr⟩ := hr
  refine rr_ldI C dL_law_408 e4 ?_
  refine rr_aload_n (i := 0) C dL_law_409 rfl rfl ?_
  refine rr_iload_n (i := 3) C dL_law_410 rfl rfl ?_
  refine rr_iconst (v := 3) C dL_law_411 (by decide) ?_
  refine rr_iadd C dL_law_412 ?_
  replace hr := Option.bind_eq_some_iff.mp hr
  obtain ⟨v5, e6, hr⟩ := hr
  refine rr_ldI C dL_law_413 e6 ?_
  refine rr_aload_n (i := 0) C dL_law_414 rfl rfl ?_
  refine rr_iload_n (i := 3) C dL_law_415 rfl rfl ?_
  refine rr_iconst (v := 4) C dL_law_416 (by decide) ?_
  refine rr_iadd C dL_law_417 ?_
  replace hr := Option.bind_eq_some_iff.mp hr
  obtain ⟨v7, e8, hr⟩ := hr
  refine rr_ldI C dL_law_418 e8 ?_
  replace hr := Option.bind_eq_some_iff.mp hr
  obtain ⟨u9, e10, hr⟩ := hr
  replace hr := Option.bind_eq_some_iff.mp hr
  obtain ⟨v11, e12, hr⟩ := hr
  refine rr_callVq (as := [.int v1, .int v3, .int v5, .int v7]) (st := []) (mc' := 0) (ms' := 0) C dL_law_419 iv_L_41 (by decide) e10 rfl (Nat.le_of_ble_eq_true rfl) (c_X10_bench 48 v1 v3 v5 v7 (by omega) e12) (fun v_ h_ n_ q_ => ?_)
  obtain ⟨q1_, q2_, q3_⟩ := q_
  subst v_; subst h_; subst n_
  show WW W0 G 4 _ _ _ 422 [some (.ref 0), some (.ref 48), some (.ref 159), some (.int l3)] [.int v11.1] v11.2 n _ _
  refine rr_aload_n (i := 2) C dL_law_422 rfl rfl ?_
  refine rr_aload_n (i := 0) C dL_law_423 rfl rfl ?_
  refine rr_iload_n (i := 3) C dL_law_424 rfl rfl ?_
  refine rr_iconst (v := 1) C dL_law_425 (by decide) ?_
  refine rr_iadd C dL_law_426 ?_
  replace hr := Option.bind_eq_some_iff.mp hr
  obtain ⟨v13, e14, hr⟩ := hr
  refine rr_ldI C dL_law_427 e14 ?_
  refine rr_aload_n (i := 0) C dL_law_428 rfl rfl ?_
  refine rr_iload_n (i := 3) C dL_law_429 rfl rfl ?_
  refine rr_iconst (v := 2) C dL_law_430 (by decide) ?_
  refine rr_iadd C dL_law_431 ?_
  replace hr := Option.bind_eq_some_iff.mp hr
  obtain ⟨v15, e16, hr⟩ := hr
  refine rr_ldI C dL_law_432 e16 ?_
  refine rr_aload_n (i := 0) C dL_law_433 rfl rfl ?_
  refine rr_iload_n (i := 3) C dL_law_434 rfl rfl ?_
  refine rr_iconst (v := 3) C dL_law_435 (by decide) ?_
  refine rr_iadd C dL_law_436 ?_
  replace hr := Option.bind_eq_some_iff.mp hr
  obtain ⟨v17, e18, hr⟩ := hr
  refine rr_ldI C dL_law_437 e18 ?_
  refine rr_aload_n (i := 0) C dL_law_438 rfl rfl ?_
  refine rr_iload_n (i := 3) C dL_law_439 rfl rfl ?_
  refine rr_iconst (v := 4) C dL_law_440 (by decide) ?_
  refine rr_iadd C dL_law_441 ?_
  replace hr := Option.bind_eq_some_iff.mp hr
  obtain ⟨v19, e20, hr⟩ := hr
  refine rr_ldI C dL_law_442 e20 ?_
  replace hr := Option.bind_eq_some_iff.mp hr
  obtain ⟨u21, e22, hr⟩ := hr
  replace hr := Option.bind_eq_some_iff.mp hr
  obtain ⟨v23, e24, hr⟩ := hr
  refine rr_callVq (as := [.int v13, .int v15, .int v17, .int v19]) (st := [.int v11.1]) (mc' := 0) (ms' := 0) C dL_law_443 iv_L_44 (by decide) e22 rfl (Nat.le_of_ble_eq_true rfl) (c_X11_bench 159 v13 v15 v17 v19 (by omega) e24) (fun v_ h_ n_ q_ => ?_)
  obtain ⟨q1_, q2_, q3_⟩ := q_
  subst v_; subst h_; subst n_
  show WW W0 G 4 _ _ _ 446 [some (.ref 0), some (.ref 48), some (.ref 159), some (.int l3)] [.int v23.1, .int v11.1] v23.2 n _ _
  refine rr_icmp_eq (tgt := 1550) C dL_law_446 (by decide) (fun c446_ => ?_) (fun c446_ => ?_)
  · replace hr := (if_pos c446_).symm.trans hr
    obtain rfl := Option.some.inj hr
    exact hx0 (show n ≤ n from by omega)
  · replace hr := (if_neg c446_).symm.trans hr
    cases hr
def st_law_7 (K : Nat) (h : mm_H) (n : Nat) (l3 : Int32) (kc ks : Nat) : Option (mm_H × Nat × Nat × Nat) :=
  (ldI h n 0 (l3 + 1)).bind fun v1 =>
  (ldI h n 0 (l3 + 2)).bind fun v3 =>
  (ldI h n 0 (l3 + 3)).bind fun v5 =>
  (ckq h n 48 9).bind fun u7 =>
  (q_X10_log K h n 48 v1 v3 v5).bind fun v9 =>
  (ldI v9.2 n 0 (l3 + 1)).bind fun v11 =>
  (ldI v9.2 n 0 (l3 + 2)).bind fun v13 =>
  (ldI v9.2 n 0 (l3 + 3)).bind fun v15 =>
  (ckq v9.2 n 159 10).bind fun u17 =>
  (q_X11_log K v9.2 n 159 v11 v13 v15).bind fun v19 =>
  if v9.1 = v19.1 then
    some (v19.2, n, kc, ks)
  else
  none
set_option maxRecDepth 100000 in
set_option maxHeartbeats 4000000 in
theorem b_law_7 {K : Nat} {nm_ : String} {W0 : mm_X} {G : mm_G} {Q_ : State → Prop} {h : mm_H} {n kc ks : Nat} (C : mm_C W0 G cL_law yL_law.cls 4 600000 7302250 (some .boolean) 300 nm_) (hn : 160 ≤ n) (l3 : Int32) {r_ : mm_H × Nat × Nat × Nat} (hr : st_law_7 K h n l3 kc ks = some r_) (hx0 : n ≤ r_.2.1 → WW W0 G 4 600000 7302250 Q_ 1550 [some (.ref 0), some (.ref 48), some (.ref 159), some (.int l3)] [] r_.1 r_.2.1 r_.2.2.1 r_.2.2.2) : WW W0 G 4 600000 7302250 Q_ 451 [some (.ref 0), some (.ref 48), some (.ref 159), some (.int l3)] [] h n kc ks := by
  unfold st_law_7 at hr
  refine rr_aload_n (i := 1) C dL_law_451 rfl rfl ?_
  refine rr_aload_n (i := 0) C dL_law_452 rfl rfl ?_
  refine rr_iload_n (i := 3) C dL_law_453 rfl rfl ?_
  refine rr_iconst (v := 1) C dL_law_454 (by decide) ?_
  refine rr_iadd C dL_law_455 ?_
  replace hr := Option.bind_eq_some_iff.mp hr
  obtain ⟨v1, e2, hr⟩ := hr
  refine rr_ldI C dL_law_456 e2 ?_
  refine rr_aload_n (i := 0) C dL_law_457 rfl rfl ?_
  refine rr_iload_n (i := 3) C dL_law_458 rfl rfl ?_
  refine rr_iconst (v := 2) C dL_law_459 (by decide) ?_
  refine rr_iadd C dL_law_460 ?_
  replace hr := Option.bind_eq_some_iff.mp hr
  obtain ⟨v3, e4, hr⟩ := hr
  refine rr_ldI C dL_law_461 e4 ?_
  refine rr_aload_n (i := 0) C dL_law_462 rfl rfl ?_
  refine rr_iload_n (i := 3) C dL_law_463 rfl rfl ?_
  refine rr_iconst (v := 3) C dL_law_464 (by decide) ?_
  refine rr_iadd C dL_law_465 ?_
  replace hr := Option.bind_eq_some_iff.mp hr
  obtain ⟨v5, e6, hr⟩ := hr
  refine rr_ldI C dL_law_466 e6 ?_
  replace hr := Option.bind_eq_some_iff.mp hr
  obtain ⟨u7, e8, hr⟩ := hr
  replace hr := Option.bind_eq_some_iff.mp hr
  obtain ⟨v9, e10, hr⟩ := hr
  refine rr_callVq (as := [.int v1, .int v3, .int v5]) (st := []) (mc' := 0) (ms' := 0) C dL_law_467 iv_L_45 (by decide) e8 rfl (Nat.le_of_ble_eq_true rfl) (c_X10_log 48 v1 v3 v5 (by omega) e10) (fun v_ h_ n_ q_ => ?_)
  obtain ⟨q1_, q2_, q3_⟩ := q_
  subst v_; subst h_; subst n_
  show WW W0 G 4 _ _ _ 470 [some (.ref 0), some (.ref 48), some (.ref 159), some (.int l3)] [.int v9.1] v9.2 n _ _
  refine rr_aload_n (i := 2) C dL_law_470 rfl rfl ?_
  refine rr_aload_n (i := 0) C dL_law_471 rfl rfl ?_
  refine rr_iload_n (i := 3) C dL_law_472 rfl rfl ?_
  refine rr_iconst (v := 1) C dL_law_473 (by decide) ?_
  refine rr_iadd C dL_law_474 ?_
  replace hr := Option.bind_eq_some_iff.mp hr
  obtain ⟨v11, e12, hr⟩ := hr
  refine rr_ldI C dL_law_475 e12 ?_
  refine rr_aload_n (i := 0) C dL_law_476 rfl rfl ?_
  refine rr_iload_n (i := 3) C dL_law_477 rfl rfl ?_
  refine rr_iconst (v := 2) C dL_law_478 (by decide) ?_
  refine rr_iadd C dL_law_479 ?_
  replace hr := Option.bind_eq_some_iff.mp hr
  obtain ⟨v13, e14, hr⟩ := hr
  refine rr_ldI C dL_law_480 e14 ?_
  refine rr_aload_n (i := 0) C dL_law_481 rfl rfl ?_
  refine rr_iload_n (i := 3) C dL_law_482 rfl rfl ?_
  refine rr_iconst (v := 3) C dL_law_483 (by decide) ?_
  refine rr_iadd C dL_law_484 ?_
  replace hr := Option.bind_eq_some_iff.mp hr
  obtain ⟨v15, e16, hr⟩ := hr
  refine rr_ldI C dL_law_485 e16 ?_
  replace hr := Option.bind_eq_some_iff.mp hr
  obtain ⟨u17, e18, hr⟩ := hr
  replace hr := Option.bind_eq_some_iff.mp hr
  obtain ⟨v19, e20, hr⟩ := hr
  refine rr_callVq (as := [.int v11, .int v13, .int v15]) (st := [.int v9.1]) (mc' := 0) (ms' := 0) C dL_law_486 iv_L_48 (by decide) e18 rfl (Nat.le_of_ble_eq_true rfl) (c_X11_log 159 v11 v13 v15 (by omega) e20) (fun v_ h_ n_ q_ => ?_)
  obtain ⟨q1_, q2_, q3_⟩ := q_
  subst v_; subst h_; subst n_
  show WW W0 G 4 _ _ _ 489 [some (.ref 0), some (.ref 48), some (.ref 159), some (.int l3)] [.int v19.1, .int v9.1] v19.2 n _ _
  refine rr_icmp_eq (tgt := 1550) C dL_law_489 (by decide) (fun c489_ => ?_) (fun c489_ => ?_)
  · replace hr := (if_pos c489_).symm.trans hr
    obtain rfl := Option.some.inj hr
    exact hx0 (show n ≤ n from by omega)
  · replace hr := (if_neg c489_).symm.trans hr
    cases hr
def st_law_8 (K : Nat) (h : mm_H) (n : Nat) (l3 : Int32) (kc ks : Nat) : Option (mm_H × Nat × Nat × Nat) :=
  (ldI h n 0 (l3 + 1)).bind fun v1 =>
  (ldI h n 0 (l3 + 2)).bind fun v3 =>
  (ldI h n 0 (l3 + 3)).bind fun v5 =>
  (ldI h n 0 (l3 + 4)).bind fun v7 =>
  (ldI h n 0 (l3 + 5)).bind fun v9 =>
  (ckq h n 48 9).bind fun u11 =>
  (q_X10_feed K h n 48 v1 v3 v5 v7 v9).bind fun v13 =>
  (ldI v13.2 n 0 (l3 + 1)).bind fun v15 =>
  (ldI v13.2 n 0 (l3 + 2)).bind fun v17 =>
  (ldI v13.2 n 0 (l3 + 3)).bind fun v19 =>
  (ldI v13.2 n 0 (l3 + 4)).bind fun v21 =>
  (ldI v13.2 n 0 (l3 + 5)).bind fun v23 =>
  (ckq v13.2 n 159 10).bind fun u25 =>
  (q_X11_feed K v13.2 n 159 v15 v17 v19 v21 v23).bind fun v27 =>
  if v13.1 = v27.1 then
    some (v27.2, n, kc, ks)
  else
  none
set_option maxRecDepth 100000 in
set_option maxHeartbeats 4000000 in
theorem b_law_8 {K : Nat} {nm_ : String} {W0 : mm_X} {G : mm_G} {Q_ : State → Prop} {h : mm_H} {n kc ks : Nat} (C : mm_C W0 G cL_law yL_law.cls 4 600000 7302250 (some .boolean) 300 nm_) (hn : 160 ≤ n) (l3 : Int32) {r_ : mm_H × Nat × Nat × Nat} (hr : st_law_8 K h n l3 kc ks = some r_) (hx0 : n ≤ r_.2.1 → WW W0 G 4 600000 7302250 Q_ 1550 [some (.ref 0), some (.ref 48), some (.ref 159), some (.int l3)] [] r_.1 r_.2.1 r_.2.2.1 r_.2.2.2) : WW W0 G 4 600000 7302250 Q_ 494 [some (.ref 0), some (.ref 48), some (.ref 159), some (.int l3)] [] h n kc ks := by
  unfold st_law_8 at hr
  refine rr_aload_n (i := 1) C dL_law_494 rfl rfl ?_
  refine rr_aload_n (i := 0) C dL_law_495 rfl rfl ?_
  refine rr_iload_n (i := 3) C dL_law_496 rfl rfl ?_
  refine rr_iconst (v := 1) C dL_law_497 (by decide) ?_
  refine rr_iadd C dL_law_498 ?_
  replace hr := Option.bind_eq_some_iff.mp hr
  obtain ⟨v1, e2, hr⟩ := hr
  refine rr_ldI C dL_law_499 e2 ?_
  refine rr_aload_n (i := 0) C dL_law_500 rfl rfl ?_
  refine rr_iload_n (i := 3) C dL_law_501 rfl rfl ?_
  refine rr_iconst (v := 2) C dL_law_502 (by decide) ?_
  refine rr_iadd C dL_law_503 ?_
  replace hr := Option.bind_eq_some_iff.mp hr
  obtain ⟨v3, e4, hr⟩ := hr
  refine rr_ldI C dL_law_504 e4 ?_
  refine rr_aload_n (i := 0) C dL_law_505 rfl rfl ?_
  refine rr_iload_n (i := 3) C dL_law_506 rfl rfl ?_
  refine rr_iconst (v := 3) C dL_law_507 (by decide) ?_
  refine rr_iadd C dL_law_508 ?_
  replace hr := Option.bind_eq_some_iff.mp hr
  obtain ⟨v5, e6, hr⟩ := hr
  refine rr_ldI C dL_law_509 e6 ?_
  refine rr_aload_n (i := 0) C dL_law_510 rfl rfl ?_
  refine rr_iload_n (i := 3) C dL_law_511 rfl rfl ?_
  refine rr_iconst (v := 4) C dL_law_512 (by decide) ?_
  refine rr_iadd C dL_law_513 ?_
  replace hr := Option.bind_eq_some_iff.mp hr
  obtain ⟨v7, e8, hr⟩ := hr
  refine rr_ldI C dL_law_514 e8 ?_
  refine rr_aload_n (i := 0) C dL_law_515 rfl rfl ?_
  refine rr_iload_n (i := 3) C dL_law_516 rfl rfl ?_
  refine rr_iconst (v := 5) C dL_law_517 (by decide) ?_
  refine rr_iadd C dL_law_518 ?_
  replace hr := Option.bind_eq_some_iff.mp hr
  obtain ⟨v9, e10, hr⟩ := hr
  refine rr_ldI C dL_law_519 e10 ?_
  replace hr := Option.bind_eq_some_iff.mp hr
  obtain ⟨u11, e12, hr⟩ := hr
  replace hr := Option.bind_eq_some_iff.mp hr
  obtain ⟨v13, e14, hr⟩ := hr
  refine rr_callVq (as := [.int v1, .int v3, .int v5, .int v7, .int v9]) (st := []) (mc' := 0) (ms' := 0) C dL_law_520 iv_L_49 (by decide) e12 rfl (Nat.le_of_ble_eq_true rfl) (c_X10_feed 48 v1 v3 v5 v7 v9 (by omega) e14) (fun v_ h_ n_ q_ => ?_)
  obtain ⟨q1_, q2_, q3_⟩ := q_
  subst v_; subst h_; subst n_
  show WW W0 G 4 _ _ _ 523 [some (.ref 0), some (.ref 48), some (.ref 159), some (.int l3)] [.int v13.1] v13.2 n _ _
  refine rr_aload_n (i := 2) C dL_law_523 rfl rfl ?_
  refine rr_aload_n (i := 0) C dL_law_524 rfl rfl ?_
  refine rr_iload_n (i := 3) C dL_law_525 rfl rfl ?_
  refine rr_iconst (v := 1) C dL_law_526 (by decide) ?_
  refine rr_iadd C dL_law_527 ?_
  replace hr := Option.bind_eq_some_iff.mp hr
  obtain ⟨v15, e16, hr⟩ := hr
  refine rr_ldI C dL_law_528 e16 ?_
  refine rr_aload_n (i := 0) C dL_law_529 rfl rfl ?_
  refine rr_iload_n (i := 3) C dL_law_530 rfl rfl ?_
  refine rr_iconst (v := 2) C dL_law_531 (by decide) ?_
  refine rr_iadd C dL_law_532 ?_
  replace hr := Option.bind_eq_some_iff.mp hr
  obtain ⟨v17, e18, hr⟩ := hr
  refine rr_ldI C dL_law_533 e18 ?_
  refine rr_aload_n (i := 0) C dL_law_534 rfl rfl ?_
  refine rr_iload_n (i := 3) C dL_law_535 rfl rfl ?_
  refine rr_iconst (v := 3) C dL_law_536 (by decide) ?_
  refine rr_iadd C dL_law_537 ?_
  replace hr := Option.bind_eq_some_iff.mp hr
  obtain ⟨v19, e20, hr⟩ := hr
  refine rr_ldI C dL_law_538 e20 ?_
  refine rr_aload_n (i := 0) C dL_law_539 rfl rfl ?_
  refine rr_iload_n (i := 3) C dL_law_540 rfl rfl ?_
  refine rr_iconst (v := 4) C dL_law_541 (by decide) ?_
  refine rr_iadd C dL_law_542 ?_
  replace hr := Option.bind_eq_some_iff.mp hr
  obtain ⟨v21, e22, hr⟩ := hr
  refine rr_ldI C dL_law_543 e22 ?_
  refine rr_aload_n (i := 0) C dL_law_544 rfl rfl ?_
  refine rr_iload_n (i := 3) C dL_law_545 rfl rfl ?_
  refine rr_iconst (v := 5) C dL_law_546 (by decide) ?_
  refine rr_iadd C dL_law_547 ?_
  replace hr := Option.bind_eq_some_iff.mp hr
  obtain ⟨v23, e24, hr⟩ := hr
  refine rr_ldI C dL_law_548 e24 ?_
  replace hr := Option.bind_eq_some_iff.mp hr
  obtain ⟨u25, e26, hr⟩ := hr
  replace hr := Option.bind_eq_some_iff.mp hr
  obtain ⟨v27, e28, hr⟩ := hr
  refine rr_callVq (as := [.int v15, .int v17, .int v19, .int v21, .int v23]) (st := [.int v13.1]) (mc' := 0) (ms' := 0) C dL_law_549 iv_L_53 (by decide) e26 rfl (Nat.le_of_ble_eq_true rfl) (c_X11_feed 159 v15 v17 v19 v21 v23 (by omega) e28) (fun v_ h_ n_ q_ => ?_)
  obtain ⟨q1_, q2_, q3_⟩ := q_
  subst v_; subst h_; subst n_
  show WW W0 G 4 _ _ _ 552 [some (.ref 0), some (.ref 48), some (.ref 159), some (.int l3)] [.int v27.1, .int v13.1] v27.2 n _ _
  refine rr_icmp_eq (tgt := 1550) C dL_law_552 (by decide) (fun c552_ => ?_) (fun c552_ => ?_)
  · replace hr := (if_pos c552_).symm.trans hr
    obtain rfl := Option.some.inj hr
    exact hx0 (show n ≤ n from by omega)
  · replace hr := (if_neg c552_).symm.trans hr
    cases hr
def st_law_9 (K : Nat) (h : mm_H) (n : Nat) (l3 : Int32) (kc ks : Nat) : Option (mm_H × Nat × Nat × Nat) :=
  (ldI h n 0 (l3 + 1)).bind fun v1 =>
  (ldI h n 0 (l3 + 2)).bind fun v3 =>
  (ckq h n 48 9).bind fun u5 =>
  (bud kc (2 * (lawM9 h n v1 v3) + 2)).bind fun kc12 =>
  (bud ks (911 * (lawM9 h n v1 v3) + 304)).bind fun ks13 =>
  (q_X10_rules K (lawM9 h n v1 v3) h n 48 v1 v3).bind fun (v10, h8, n9) =>
  (ldI h8 n9 0 (l3 + 1)).bind fun v17 =>
  (ldI h8 n9 0 (l3 + 2)).bind fun v19 =>
  (ckq h8 n9 159 10).bind fun u21 =>
  (q_X11_rules K h8 n9 159 v17 v19).bind fun v23 =>
  if v10 = v23.1 then
    some (v23.2, n9, kc12, ks13)
  else
  none
set_option maxRecDepth 100000 in
set_option maxHeartbeats 4000000 in
theorem b_law_9 {K : Nat} {nm_ : String} {W0 : mm_X} {G : mm_G} {Q_ : State → Prop} {h : mm_H} {n kc ks : Nat} (C : mm_C W0 G cL_law yL_law.cls 4 600000 7302250 (some .boolean) 300 nm_) (hn : 160 ≤ n) (l3 : Int32) {r_ : mm_H × Nat × Nat × Nat} (hr : st_law_9 K h n l3 kc ks = some r_) (hx0 : n ≤ r_.2.1 → WW W0 G 4 600000 7302250 Q_ 1550 [some (.ref 0), some (.ref 48), some (.ref 159), some (.int l3)] [] r_.1 r_.2.1 r_.2.2.1 r_.2.2.2) : WW W0 G 4 600000 7302250 Q_ 557 [some (.ref 0), some (.ref 48), some (.ref 159), some (.int l3)] [] h n kc ks := by
  unfold st_law_9 at hr
  refine rr_aload_n (i := 1) C dL_law_557 rfl rfl ?_
  refine rr_aload_n (i := 0) C dL_law_558 rfl rfl ?_
  refine rr_iload_n (i := 3) C dL_law_559 rfl rfl ?_
  refine rr_iconst (v := 1) C dL_law_560 (by decide) ?_
  refine rr_iadd C dL_law_561 ?_
  replace hr := Option.bind_eq_some_iff.mp hr
  obtain ⟨v1, e2, hr⟩ := hr
  refine rr_ldI C dL_law_562 e2 ?_
  refine rr_aload_n (i := 0) C dL_law_563 rfl rfl ?_
  refine rr_iload_n (i := 3) C dL_law_564 rfl rfl ?_
  refine rr_iconst (v := 2) C dL_law_565 (by decide) ?_
  refine rr_iadd C dL_law_566 ?_
  replace hr := Option.bind_eq_some_iff.mp hr
  obtain ⟨v3, e4, hr⟩ := hr
  refine rr_ldI C dL_law_567 e4 ?_
  replace hr := Option.bind_eq_some_iff.mp hr
  obtain ⟨u5, e6, hr⟩ := hr
  replace hr := Option.bind_eq_some_iff.mp hr
  obtain ⟨kc12, e14, hr⟩ := hr
  replace hr := Option.bind_eq_some_iff.mp hr
  obtain ⟨ks13, e15, hr⟩ := hr
  replace hr := Option.bind_eq_some_iff.mp hr
  obtain ⟨⟨v10, h8, n9⟩, e11, hr⟩ := hr
  dsimp only at hr
  refine rr_cut C (kc' := kc12 + (2 * (lawM9 h n v1 v3) + 2)) (ks' := ks13 + (911 * (lawM9 h n v1 v3) + 304)) (by rw [bud_s e14]; exact Nat.le_refl _) (by rw [bud_s e15]; exact Nat.le_refl _) ?_
  refine rr_callVq (as := [.int v1, .int v3]) (st := []) (mc' := 2 * (lawM9 h n v1 v3) + 2) (ms' := 911 * (lawM9 h n v1 v3) + 304) C dL_law_568 iv_L_54 (by decide) e6 rfl (Nat.le_of_ble_eq_true rfl) (c_X10_rules 48 v1 v3 (by omega) e11) (fun v_ h_ n_ q_ => ?_)
  obtain ⟨q1_, q2_, q3_, b16⟩ := q_
  subst v_; subst h_; subst n_
  try dsimp only at b16
  show WW W0 G 4 _ _ _ 571 [some (.ref 0), some (.ref 48), some (.ref 159), some (.int l3)] [.int v10] h8 n9 _ _
  refine rr_aload_n (i := 2) C dL_law_571 rfl rfl ?_
  refine rr_aload_n (i := 0) C dL_law_572 rfl rfl ?_
  refine rr_iload_n (i := 3) C dL_law_573 rfl rfl ?_
  refine rr_iconst (v := 1) C dL_law_574 (by decide) ?_
  refine rr_iadd C dL_law_575 ?_
  replace hr := Option.bind_eq_some_iff.mp hr
  obtain ⟨v17, e18, hr⟩ := hr
  refine rr_ldI C dL_law_576 e18 ?_
  refine rr_aload_n (i := 0) C dL_law_577 rfl rfl ?_
  refine rr_iload_n (i := 3) C dL_law_578 rfl rfl ?_
  refine rr_iconst (v := 2) C dL_law_579 (by decide) ?_
  refine rr_iadd C dL_law_580 ?_
  replace hr := Option.bind_eq_some_iff.mp hr
  obtain ⟨v19, e20, hr⟩ := hr
  refine rr_ldI C dL_law_581 e20 ?_
  replace hr := Option.bind_eq_some_iff.mp hr
  obtain ⟨u21, e22, hr⟩ := hr
  replace hr := Option.bind_eq_some_iff.mp hr
  obtain ⟨v23, e24, hr⟩ := hr
  refine rr_callVq (as := [.int v17, .int v19]) (st := [.int v10]) (mc' := 0) (ms' := 0) C dL_law_582 iv_L_58 (by decide) e22 rfl (Nat.le_of_ble_eq_true rfl) (c_X11_rules 159 v17 v19 (by omega) e24) (fun v_ h_ n_ q_ => ?_)
  obtain ⟨q1_, q2_, q3_⟩ := q_
  subst v_; subst h_; subst n_
  show WW W0 G 4 _ _ _ 585 [some (.ref 0), some (.ref 48), some (.ref 159), some (.int l3)] [.int v23.1, .int v10] v23.2 n9 _ _
  refine rr_icmp_eq (tgt := 1550) C dL_law_585 (by decide) (fun c585_ => ?_) (fun c585_ => ?_)
  · replace hr := (if_pos c585_).symm.trans hr
    obtain rfl := Option.some.inj hr
    exact hx0 (show n ≤ n9 from by omega)
  · replace hr := (if_neg c585_).symm.trans hr
    cases hr
def st_law_10 (K : Nat) (h : mm_H) (n : Nat) (l3 : Int32) (kc ks : Nat) : Option (mm_H × Nat × Nat × Nat) :=
  (ldI h n 0 (l3 + 1)).bind fun v1 =>
  (ckq h n 48 9).bind fun u3 =>
  (bud kc (2 * (lawM10 h n v1) + 2)).bind fun kc10 =>
  (bud ks (911 * (lawM10 h n v1) + 304)).bind fun ks11 =>
  (q_X10_beside K (lawM10 h n v1) h n 48 v1).bind fun (v8, h6, n7) =>
  (ldI h6 n7 0 (l3 + 1)).bind fun v15 =>
  (ckq h6 n7 159 10).bind fun u17 =>
  (q_X11_beside K h6 n7 159 v15).bind fun v19 =>
  if v8 = v19.1 then
    some (v19.2, n7, kc10, ks11)
  else
  none
set_option maxRecDepth 100000 in
set_option maxHeartbeats 4000000 in
theorem b_law_10 {K : Nat} {nm_ : String} {W0 : mm_X} {G : mm_G} {Q_ : State → Prop} {h : mm_H} {n kc ks : Nat} (C : mm_C W0 G cL_law yL_law.cls 4 600000 7302250 (some .boolean) 300 nm_) (hn : 160 ≤ n) (l3 : Int32) {r_ : mm_H × Nat × Nat × Nat} (hr : st_law_10 K h n l3 kc ks = some r_) (hx0 : n ≤ r_.2.1 → WW W0 G 4 600000 7302250 Q_ 1550 [some (.ref 0), some (.ref 48), some (.ref 159), some (.int l3)] [] r_.1 r_.2.1 r_.2.2.1 r_.2.2.2) : WW W0 G 4 600000 7302250 Q_ 590 [some (.ref 0), some (.ref 48), some (.ref 159), some (.int l3)] [] h n kc ks := by
  unfold st_law_10 at hr
  refine rr_aload_n (i := 1) C dL_law_590 rfl rfl ?_
  refine rr_aload_n (i := 0) C dL_law_591 rfl rfl ?_
  refine rr_iload_n (i := 3) C dL_law_592 rfl rfl ?_
  refine rr_iconst (v := 1) C dL_law_593 (by decide) ?_
  refine rr_iadd C dL_law_594 ?_
  replace hr := Option.bind_eq_some_iff.mp hr
  obtain ⟨v1, e2, hr⟩ := hr
  refine rr_ldI C dL_law_595 e2 ?_
  replace hr := Option.bind_eq_some_iff.mp hr
  obtain ⟨u3, e4, hr⟩ := hr
  replace hr := Option.bind_eq_some_iff.mp hr
  obtain ⟨kc10, e12, hr⟩ := hr
  replace hr := Option.bind_eq_some_iff.mp hr
  obtain ⟨ks11, e13, hr⟩ := hr
  replace hr := Option.bind_eq_some_iff.mp hr
  obtain ⟨⟨v8, h6, n7⟩, e9, hr⟩ := hr
  dsimp only at hr
  refine rr_cut C (kc' := kc10 + (2 * (lawM10 h n v1) + 2)) (ks' := ks11 + (911 * (lawM10 h n v1) + 304)) (by rw [bud_s e12]; exact Nat.le_refl _) (by rw [bud_s e13]; exact Nat.le_refl _) ?_
  refine rr_callVq (as := [.int v1]) (st := []) (mc' := 2 * (lawM10 h n v1) + 2) (ms' := 911 * (lawM10 h n v1) + 304) C dL_law_596 iv_L_59 (by decide) e4 rfl (Nat.le_of_ble_eq_true rfl) (c_X10_beside 48 v1 (by omega) e9) (fun v_ h_ n_ q_ => ?_)
  obtain ⟨q1_, q2_, q3_, b14⟩ := q_
  subst v_; subst h_; subst n_
  try dsimp only at b14
  show WW W0 G 4 _ _ _ 599 [some (.ref 0), some (.ref 48), some (.ref 159), some (.int l3)] [.int v8] h6 n7 _ _
  refine rr_aload_n (i := 2) C dL_law_599 rfl rfl ?_
  refine rr_aload_n (i := 0) C dL_law_600 rfl rfl ?_
  refine rr_iload_n (i := 3) C dL_law_601 rfl rfl ?_
  refine rr_iconst (v := 1) C dL_law_602 (by decide) ?_
  refine rr_iadd C dL_law_603 ?_
  replace hr := Option.bind_eq_some_iff.mp hr
  obtain ⟨v15, e16, hr⟩ := hr
  refine rr_ldI C dL_law_604 e16 ?_
  replace hr := Option.bind_eq_some_iff.mp hr
  obtain ⟨u17, e18, hr⟩ := hr
  replace hr := Option.bind_eq_some_iff.mp hr
  obtain ⟨v19, e20, hr⟩ := hr
  refine rr_callVq (as := [.int v15]) (st := [.int v8]) (mc' := 0) (ms' := 0) C dL_law_605 iv_L_62 (by decide) e18 rfl (Nat.le_of_ble_eq_true rfl) (c_X11_beside 159 v15 (by omega) e20) (fun v_ h_ n_ q_ => ?_)
  obtain ⟨q1_, q2_, q3_⟩ := q_
  subst v_; subst h_; subst n_
  show WW W0 G 4 _ _ _ 608 [some (.ref 0), some (.ref 48), some (.ref 159), some (.int l3)] [.int v19.1, .int v8] v19.2 n7 _ _
  refine rr_icmp_eq (tgt := 1550) C dL_law_608 (by decide) (fun c608_ => ?_) (fun c608_ => ?_)
  · replace hr := (if_pos c608_).symm.trans hr
    obtain rfl := Option.some.inj hr
    exact hx0 (show n ≤ n7 from by omega)
  · replace hr := (if_neg c608_).symm.trans hr
    cases hr
def st_law_11 (K : Nat) (h : mm_H) (n : Nat) (l3 : Int32) (kc ks : Nat) : Option (mm_H × Nat × Nat × Nat) :=
  (ckq h n 48 9).bind fun u1 =>
  (q_X10_fault K h n 48).bind fun v3 =>
  (ckq h n 159 10).bind fun u5 =>
  (q_X11_fault K h n 159).bind fun v7 =>
  if v3 = v7 then
    some (h, n, kc, ks)
  else
  none
set_option maxRecDepth 100000 in
set_option maxHeartbeats 4000000 in
theorem b_law_11 {K : Nat} {nm_ : String} {W0 : mm_X} {G : mm_G} {Q_ : State → Prop} {h : mm_H} {n kc ks : Nat} (C : mm_C W0 G cL_law yL_law.cls 4 600000 7302250 (some .boolean) 300 nm_) (hn : 160 ≤ n) (l3 : Int32) {r_ : mm_H × Nat × Nat × Nat} (hr : st_law_11 K h n l3 kc ks = some r_) (hx0 : n ≤ r_.2.1 → WW W0 G 4 600000 7302250 Q_ 1550 [some (.ref 0), some (.ref 48), some (.ref 159), some (.int l3)] [] r_.1 r_.2.1 r_.2.2.1 r_.2.2.2) : WW W0 G 4 600000 7302250 Q_ 613 [some (.ref 0), some (.ref 48), some (.ref 159), some (.int l3)] [] h n kc ks := by
  unfold st_law_11 at hr
  refine rr_aload_n (i := 1) C dL_law_613 rfl rfl ?_
  replace hr := Option.bind_eq_some_iff.mp hr
  obtain ⟨u1, e2, hr⟩ := hr
  replace hr := Option.bind_eq_some_iff.mp hr
  obtain ⟨v3, e4, hr⟩ := hr
  refine rr_callVq (as := []) (st := []) (mc' := 0) (ms' := 0) C dL_law_614 iv_L_63 (by decide) e2 rfl (Nat.le_of_ble_eq_true rfl) (c_X10_fault 48 (by omega) e4) (fun v_ h_ n_ q_ => ?_)
  obtain ⟨q1_, q2_, q3_⟩ := q_
  subst v_; subst h_; subst n_
  show WW W0 G 4 _ _ _ 617 [some (.ref 0), some (.ref 48), some (.ref 159), some (.int l3)] [.int v3] h n _ _
  refine rr_aload_n (i := 2) C dL_law_617 rfl rfl ?_
  replace hr := Option.bind_eq_some_iff.mp hr
  obtain ⟨u5, e6, hr⟩ := hr
  replace hr := Option.bind_eq_some_iff.mp hr
  obtain ⟨v7, e8, hr⟩ := hr
  refine rr_callVq (as := []) (st := [.int v3]) (mc' := 0) (ms' := 0) C dL_law_618 iv_L_67 (by decide) e6 rfl (Nat.le_of_ble_eq_true rfl) (c_X11_fault 159 (by omega) e8) (fun v_ h_ n_ q_ => ?_)
  obtain ⟨q1_, q2_, q3_⟩ := q_
  subst v_; subst h_; subst n_
  show WW W0 G 4 _ _ _ 621 [some (.ref 0), some (.ref 48), some (.ref 159), some (.int l3)] [.int v7, .int v3] h n _ _
  refine rr_icmp_eq (tgt := 1550) C dL_law_621 (by decide) (fun c621_ => ?_) (fun c621_ => ?_)
  · replace hr := (if_pos c621_).symm.trans hr
    obtain rfl := Option.some.inj hr
    exact hx0 (show n ≤ n from by omega)
  · replace hr := (if_neg c621_).symm.trans hr
    cases hr
def st_law_12 (K : Nat) (h : mm_H) (n : Nat) (l3 : Int32) (kc ks : Nat) : Option (mm_H × Nat × Nat × Nat) :=
  (ldI h n 0 (l3 + 1)).bind fun v1 =>
  (ldI h n 0 (l3 + 2)).bind fun v3 =>
  (ckq h n 48 9).bind fun u5 =>
  (q_X10_review K h n 48 v1 v3).bind fun v7 =>
  (ldI h n 0 (l3 + 1)).bind fun v9 =>
  (ldI h n 0 (l3 + 2)).bind fun v11 =>
  (ckq h n 159 10).bind fun u13 =>
  (q_X11_review K h n 159 v9 v11).bind fun v15 =>
  if v7 = v15 then
    some (h, n, kc, ks)
  else
  none
set_option maxRecDepth 100000 in
set_option maxHeartbeats 4000000 in
theorem b_law_12 {K : Nat} {nm_ : String} {W0 : mm_X} {G : mm_G} {Q_ : State → Prop} {h : mm_H} {n kc ks : Nat} (C : mm_C W0 G cL_law yL_law.cls 4 600000 7302250 (some .boolean) 300 nm_) (hn : 160 ≤ n) (l3 : Int32) {r_ : mm_H × Nat × Nat × Nat} (hr : st_law_12 K h n l3 kc ks = some r_) (hx0 : n ≤ r_.2.1 → WW W0 G 4 600000 7302250 Q_ 1550 [some (.ref 0), some (.ref 48), some (.ref 159), some (.int l3)] [] r_.1 r_.2.1 r_.2.2.1 r_.2.2.2) : WW W0 G 4 600000 7302250 Q_ 626 [some (.ref 0), some (.ref 48), some (.ref 159), some (.int l3)] [] h n kc ks := by
  unfold st_law_12 at hr
  refine rr_aload_n (i := 1) C dL_law_626 rfl rfl ?_
  refine rr_aload_n (i := 0) C dL_law_627 rfl rfl ?_
  refine rr_iload_n (i := 3) C dL_law_628 rfl rfl ?_
  refine rr_iconst (v := 1) C dL_law_629 (by decide) ?_
  refine rr_iadd C dL_law_630 ?_
  replace hr := Option.bind_eq_some_iff.mp hr
  obtain ⟨v1, e2, hr⟩ := hr
  refine rr_ldI C dL_law_631 e2 ?_
  refine rr_aload_n (i := 0) C dL_law_632 rfl rfl ?_
  refine rr_iload_n (i := 3) C dL_law_633 rfl rfl ?_
  refine rr_iconst (v := 2) C dL_law_634 (by decide) ?_
  refine rr_iadd C dL_law_635 ?_
  replace hr := Option.bind_eq_some_iff.mp hr
  obtain ⟨v3, e4, hr⟩ := hr
  refine rr_ldI C dL_law_636 e4 ?_
  replace hr := Option.bind_eq_some_iff.mp hr
  obtain ⟨u5, e6, hr⟩ := hr
  replace hr := Option.bind_eq_some_iff.mp hr
  obtain ⟨v7, e8, hr⟩ := hr
  refine rr_callVq (as := [.int v1, .int v3]) (st := []) (mc' := 0) (ms' := 0) C dL_law_637 iv_L_68 (by decide) e6 rfl (Nat.le_of_ble_eq_true rfl) (c_X10_review 48 v1 v3 (by omega) e8) (fun v_ h_ n_ q_ => ?_)
  obtain ⟨q1_, q2_, q3_⟩ := q_
  subst v_; subst h_; subst n_
  show WW W0 G 4 _ _ _ 640 [some (.ref 0), some (.ref 48), some (.ref 159), some (.int l3)] [.int v7] h n _ _
  refine rr_aload_n (i := 2) C dL_law_640 rfl rfl ?_
  refine rr_aload_n (i := 0) C dL_law_641 rfl rfl ?_
  refine rr_iload_n (i := 3) C dL_law_642 rfl rfl ?_
  refine rr_iconst (v := 1) C dL_law_643 (by decide) ?_
  refine rr_iadd C dL_law_644 ?_
  replace hr := Option.bind_eq_some_iff.mp hr
  obtain ⟨v9, e10, hr⟩ := hr
  refine rr_ldI C dL_law_645 e10 ?_
  refine rr_aload_n (i := 0) C dL_law_646 rfl rfl ?_
  refine rr_iload_n (i := 3) C dL_law_647 rfl rfl ?_
  refine rr_iconst (v := 2) C dL_law_648 (by decide) ?_
  refine rr_iadd C dL_law_649 ?_
  replace hr := Option.bind_eq_some_iff.mp hr
  obtain ⟨v11, e12, hr⟩ := hr
  refine rr_ldI C dL_law_650 e12 ?_
  replace hr := Option.bind_eq_some_iff.mp hr
  obtain ⟨u13, e14, hr⟩ := hr
  replace hr := Option.bind_eq_some_iff.mp hr
  obtain ⟨v15, e16, hr⟩ := hr
  refine rr_callVq (as := [.int v9, .int v11]) (st := [.int v7]) (mc' := 0) (ms' := 0) C dL_law_651 iv_L_71 (by decide) e14 rfl (Nat.le_of_ble_eq_true rfl) (c_X11_review 159 v9 v11 (by omega) e16) (fun v_ h_ n_ q_ => ?_)
  obtain ⟨q1_, q2_, q3_⟩ := q_
  subst v_; subst h_; subst n_
  show WW W0 G 4 _ _ _ 654 [some (.ref 0), some (.ref 48), some (.ref 159), some (.int l3)] [.int v15, .int v7] h n _ _
  refine rr_icmp_eq (tgt := 1550) C dL_law_654 (by decide) (fun c654_ => ?_) (fun c654_ => ?_)
  · replace hr := (if_pos c654_).symm.trans hr
    obtain rfl := Option.some.inj hr
    exact hx0 (show n ≤ n from by omega)
  · replace hr := (if_neg c654_).symm.trans hr
    cases hr
def st_law_13 (K : Nat) (h : mm_H) (n : Nat) (l3 : Int32) (kc ks : Nat) : Option (mm_H × Nat × Nat × Nat) :=
  (ldI h n 0 (l3 + 1)).bind fun v1 =>
  (ldI h n 0 (l3 + 2)).bind fun v3 =>
  (ldI h n 0 (l3 + 3)).bind fun v5 =>
  (ldI h n 0 (l3 + 4)).bind fun v7 =>
  (ckq h n 48 9).bind fun u9 =>
  (q_X10_holds K h n 48 v1 v3 v5 v7).bind fun v11 =>
  (ldI v11.2 n 0 (l3 + 1)).bind fun v13 =>
  (ldI v11.2 n 0 (l3 + 2)).bind fun v15 =>
  (ldI v11.2 n 0 (l3 + 3)).bind fun v17 =>
  (ldI v11.2 n 0 (l3 + 4)).bind fun v19 =>
  (ckq v11.2 n 159 10).bind fun u21 =>
  (q_X11_holds_ K v11.2 n 159 v13 v15 v17 v19).bind fun v23 =>
  if v11.1 = v23.1 then
    some (v23.2, n, kc, ks)
  else
  none
set_option maxRecDepth 100000 in
set_option maxHeartbeats 4000000 in
theorem b_law_13 {K : Nat} {nm_ : String} {W0 : mm_X} {G : mm_G} {Q_ : State → Prop} {h : mm_H} {n kc ks : Nat} (C : mm_C W0 G cL_law yL_law.cls 4 600000 7302250 (some .boolean) 300 nm_) (hn : 160 ≤ n) (l3 : Int32) {r_ : mm_H × Nat × Nat × Nat} (hr : st_law_13 K h n l3 kc ks = some r_) (hx0 : n ≤ r_.2.1 → WW W0 G 4 600000 7302250 Q_ 1550 [some (.ref 0), some (.ref 48), some (.ref 159), some (.int l3)] [] r_.1 r_.2.1 r_.2.2.1 r_.2.2.2) : WW W0 G 4 600000 7302250 Q_ 659 [some (.ref 0), some (.ref 48), some (.ref 159), some (.int l3)] [] h n kc ks := by
  unfold st_law_13 at hr
  refine rr_aload_n (i := 1) C dL_law_659 rfl rfl ?_
  refine rr_aload_n (i := 0) C dL_law_660 rfl rfl ?_
  refine rr_iload_n (i := 3) C dL_law_661 rfl rfl ?_
  refine rr_iconst (v := 1) C dL_law_662 (by decide) ?_
  refine rr_iadd C dL_law_663 ?_
  replace hr := Option.bind_eq_some_iff.mp hr
  obtain ⟨v1, e2, hr⟩ := hr
  refine rr_ldI C dL_law_664 e2 ?_
  refine rr_aload_n (i := 0) C dL_law_665 rfl rfl ?_
  refine rr_iload_n (i := 3) C dL_law_666 rfl rfl ?_
  refine rr_iconst (v := 2) C dL_law_667 (by decide) ?_
  refine rr_iadd C dL_law_668 ?_
  replace hr := Option.bind_eq_some_iff.mp hr
  obtain ⟨v3, e4, hr⟩ := hr
  refine rr_ldI C dL_law_669 e4 ?_
  refine rr_aload_n (i := 0) C dL_law_670 rfl rfl ?_
  refine rr_iload_n (i := 3) C dL_law_671 rfl rfl ?_
  refine rr_iconst (v := 3) C dL_law_672 (by decide) ?_
  refine rr_iadd C dL_law_673 ?_
  replace hr := Option.bind_eq_some_iff.mp hr
  obtain ⟨v5, e6, hr⟩ := hr
  refine rr_ldI C dL_law_674 e6 ?_
  refine rr_aload_n (i := 0) C dL_law_675 rfl rfl ?_
  refine rr_iload_n (i := 3) C dL_law_676 rfl rfl ?_
  refine rr_iconst (v := 4) C dL_law_677 (by decide) ?_
  refine rr_iadd C dL_law_678 ?_
  replace hr := Option.bind_eq_some_iff.mp hr
  obtain ⟨v7, e8, hr⟩ := hr
  refine rr_ldI C dL_law_679 e8 ?_
  replace hr := Option.bind_eq_some_iff.mp hr
  obtain ⟨u9, e10, hr⟩ := hr
  replace hr := Option.bind_eq_some_iff.mp hr
  obtain ⟨v11, e12, hr⟩ := hr
  refine rr_callVq (as := [.int v1, .int v3, .int v5, .int v7]) (st := []) (mc' := 0) (ms' := 0) C dL_law_680 iv_L_72 (by decide) e10 rfl (Nat.le_of_ble_eq_true rfl) (c_X10_holds 48 v1 v3 v5 v7 (by omega) e12) (fun v_ h_ n_ q_ => ?_)
  obtain ⟨q1_, q2_, q3_⟩ := q_
  subst v_; subst h_; subst n_
  show WW W0 G 4 _ _ _ 683 [some (.ref 0), some (.ref 48), some (.ref 159), some (.int l3)] [.int v11.1] v11.2 n _ _
  refine rr_aload_n (i := 2) C dL_law_683 rfl rfl ?_
  refine rr_aload_n (i := 0) C dL_law_684 rfl rfl ?_
  refine rr_iload_n (i := 3) C dL_law_685 rfl rfl ?_
  refine rr_iconst (v := 1) C dL_law_686 (by decide) ?_
  refine rr_iadd C dL_law_687 ?_
  replace hr := Option.bind_eq_some_iff.mp hr
  obtain ⟨v13, e14, hr⟩ := hr
  refine rr_ldI C dL_law_688 e14 ?_
  refine rr_aload_n (i := 0) C dL_law_689 rfl rfl ?_
  refine rr_iload_n (i := 3) C dL_law_690 rfl rfl ?_
  refine rr_iconst (v := 2) C dL_law_691 (by decide) ?_
  refine rr_iadd C dL_law_692 ?_
  replace hr := Option.bind_eq_some_iff.mp hr
  obtain ⟨v15, e16, hr⟩ := hr
  refine rr_ldI C dL_law_693 e16 ?_
  refine rr_aload_n (i := 0) C dL_law_694 rfl rfl ?_
  refine rr_iload_n (i := 3) C dL_law_695 rfl rfl ?_
  refine rr_iconst (v := 3) C dL_law_696 (by decide) ?_
  refine rr_iadd C dL_law_697 ?_
  replace hr := Option.bind_eq_some_iff.mp hr
  obtain ⟨v17, e18, hr⟩ := hr
  refine rr_ldI C dL_law_698 e18 ?_
  refine rr_aload_n (i := 0) C dL_law_699 rfl rfl ?_
  refine rr_iload_n (i := 3) C dL_law_700 rfl rfl ?_
  refine rr_iconst (v := 4) C dL_law_701 (by decide) ?_
  refine rr_iadd C dL_law_702 ?_
  replace hr := Option.bind_eq_some_iff.mp hr
  obtain ⟨v19, e20, hr⟩ := hr
  refine rr_ldI C dL_law_703 e20 ?_
  replace hr := Option.bind_eq_some_iff.mp hr
  obtain ⟨u21, e22, hr⟩ := hr
  replace hr := Option.bind_eq_some_iff.mp hr
  obtain ⟨v23, e24, hr⟩ := hr
  refine rr_callVq (as := [.int v13, .int v15, .int v17, .int v19]) (st := [.int v11.1]) (mc' := 0) (ms' := 0) C dL_law_704 iv_L_75 (by decide) e22 rfl (Nat.le_of_ble_eq_true rfl) (c_X11_holds_ 159 v13 v15 v17 v19 (by omega) e24) (fun v_ h_ n_ q_ => ?_)
  obtain ⟨q1_, q2_, q3_⟩ := q_
  subst v_; subst h_; subst n_
  show WW W0 G 4 _ _ _ 707 [some (.ref 0), some (.ref 48), some (.ref 159), some (.int l3)] [.int v23.1, .int v11.1] v23.2 n _ _
  refine rr_icmp_eq (tgt := 1550) C dL_law_707 (by decide) (fun c707_ => ?_) (fun c707_ => ?_)
  · replace hr := (if_pos c707_).symm.trans hr
    obtain rfl := Option.some.inj hr
    exact hx0 (show n ≤ n from by omega)
  · replace hr := (if_neg c707_).symm.trans hr
    cases hr
def st_law_14 (K : Nat) (h : mm_H) (n : Nat) (l3 : Int32) (kc ks : Nat) : Option (mm_H × Nat × Nat × Nat) :=
  (ldI h n 0 (l3 + 1)).bind fun v1 =>
  (ldI h n 0 (l3 + 2)).bind fun v3 =>
  (ldI h n 0 (l3 + 3)).bind fun v5 =>
  (ldI h n 0 (l3 + 4)).bind fun v7 =>
  (ckq h n 48 9).bind fun u9 =>
  (q_X10_allowed K h n 48 v1 v3 v5 v7).bind fun v11 =>
  (ldI v11.2 n 0 (l3 + 1)).bind fun v13 =>
  (ldI v11.2 n 0 (l3 + 2)).bind fun v15 =>
  (ldI v11.2 n 0 (l3 + 3)).bind fun v17 =>
  (ldI v11.2 n 0 (l3 + 4)).bind fun v19 =>
  (ckq v11.2 n 159 10).bind fun u21 =>
  (q_X11_allowed K v11.2 n 159 v13 v15 v17 v19).bind fun v23 =>
  if v11.1 = v23.1 then
    some (v23.2, n, kc, ks)
  else
  none
set_option maxRecDepth 100000 in
set_option maxHeartbeats 4000000 in
theorem b_law_14 {K : Nat} {nm_ : String} {W0 : mm_X} {G : mm_G} {Q_ : State → Prop} {h : mm_H} {n kc ks : Nat} (C : mm_C W0 G cL_law yL_law.cls 4 600000 7302250 (some .boolean) 300 nm_) (hn : 160 ≤ n) (l3 : Int32) {r_ : mm_H × Nat × Nat × Nat} (hr : st_law_14 K h n l3 kc ks = some r_) (hx0 : n ≤ r_.2.1 → WW W0 G 4 600000 7302250 Q_ 1550 [some (.ref 0), some (.ref 48), some (.ref 159), some (.int l3)] [] r_.1 r_.2.1 r_.2.2.1 r_.2.2.2) : WW W0 G 4 600000 7302250 Q_ 712 [some (.ref 0), some (.ref 48), some (.ref 159), some (.int l3)] [] h n kc ks := by
  unfold st_law_14 at hr
  refine rr_aload_n (i := 1) C dL_law_712 rfl rfl ?_
  refine rr_aload_n (i := 0) C dL_law_713 rfl rfl ?_
  refine rr_iload_n (i := 3) C dL_law_714 rfl rfl ?_
  refine rr_iconst (v := 1) C dL_law_715 (by decide) ?_
  refine rr_iadd C dL_law_716 ?_
  replace hr := Option.bind_eq_some_iff.mp hr
  obtain ⟨v1, e2, hr⟩ := hr
  refine rr_ldI C dL_law_717 e2 ?_
  refine rr_aload_n (i := 0) C dL_law_718 rfl rfl ?_
  refine rr_iload_n (i := 3) C dL_law_719 rfl rfl ?_
  refine rr_iconst (v := 2) C dL_law_720 (by decide) ?_
  refine rr_iadd C dL_law_721 ?_
  replace hr := Option.bind_eq_some_iff.mp hr
  obtain ⟨v3, e4, hr⟩ := hr
  refine rr_ldI C dL_law_722 e4 ?_
  refine rr_aload_n (i := 0) C dL_law_723 rfl rfl ?_
  refine rr_iload_n (i := 3) C dL_law_724 rfl rfl ?_
  refine rr_iconst (v := 3) C dL_law_725 (by decide) ?_
  refine rr_iadd C dL_law_726 ?_
  replace hr := Option.bind_eq_some_iff.mp hr
  obtain ⟨v5, e6, hr⟩ := hr
  refine rr_ldI C dL_law_727 e6 ?_
  refine rr_aload_n (i := 0) C dL_law_728 rfl rfl ?_
  refine rr_iload_n (i := 3) C dL_law_729 rfl rfl ?_
  refine rr_iconst (v := 4) C dL_law_730 (by decide) ?_
  refine rr_iadd C dL_law_731 ?_
  replace hr := Option.bind_eq_some_iff.mp hr
  obtain ⟨v7, e8, hr⟩ := hr
  refine rr_ldI C dL_law_732 e8 ?_
  replace hr := Option.bind_eq_some_iff.mp hr
  obtain ⟨u9, e10, hr⟩ := hr
  replace hr := Option.bind_eq_some_iff.mp hr
  obtain ⟨v11, e12, hr⟩ := hr
  refine rr_callVq (as := [.int v1, .int v3, .int v5, .int v7]) (st := []) (mc' := 0) (ms' := 0) C dL_law_733 iv_L_76 (by decide) e10 rfl (Nat.le_of_ble_eq_true rfl) (c_X10_allowed 48 v1 v3 v5 v7 (by omega) e12) (fun v_ h_ n_ q_ => ?_)
  obtain ⟨q1_, q2_, q3_⟩ := q_
  subst v_; subst h_; subst n_
  show WW W0 G 4 _ _ _ 736 [some (.ref 0), some (.ref 48), some (.ref 159), some (.int l3)] [.int v11.1] v11.2 n _ _
  refine rr_aload_n (i := 2) C dL_law_736 rfl rfl ?_
  refine rr_aload_n (i := 0) C dL_law_737 rfl rfl ?_
  refine rr_iload_n (i := 3) C dL_law_738 rfl rfl ?_
  refine rr_iconst (v := 1) C dL_law_739 (by decide) ?_
  refine rr_iadd C dL_law_740 ?_
  replace hr := Option.bind_eq_some_iff.mp hr
  obtain ⟨v13, e14, hr⟩ := hr
  refine rr_ldI C dL_law_741 e14 ?_
  refine rr_aload_n (i := 0) C dL_law_742 rfl rfl ?_
  refine rr_iload_n (i := 3) C dL_law_743 rfl rfl ?_
  refine rr_iconst (v := 2) C dL_law_744 (by decide) ?_
  refine rr_iadd C dL_law_745 ?_
  replace hr := Option.bind_eq_some_iff.mp hr
  obtain ⟨v15, e16, hr⟩ := hr
  refine rr_ldI C dL_law_746 e16 ?_
  refine rr_aload_n (i := 0) C dL_law_747 rfl rfl ?_
  refine rr_iload_n (i := 3) C dL_law_748 rfl rfl ?_
  refine rr_iconst (v := 3) C dL_law_749 (by decide) ?_
  refine rr_iadd C dL_law_750 ?_
  replace hr := Option.bind_eq_some_iff.mp hr
  obtain ⟨v17, e18, hr⟩ := hr
  refine rr_ldI C dL_law_751 e18 ?_
  refine rr_aload_n (i := 0) C dL_law_752 rfl rfl ?_
  refine rr_iload_n (i := 3) C dL_law_753 rfl rfl ?_
  refine rr_iconst (v := 4) C dL_law_754 (by decide) ?_
  refine rr_iadd C dL_law_755 ?_
  replace hr := Option.bind_eq_some_iff.mp hr
  obtain ⟨v19, e20, hr⟩ := hr
  refine rr_ldI C dL_law_756 e20 ?_
  replace hr := Option.bind_eq_some_iff.mp hr
  obtain ⟨u21, e22, hr⟩ := hr
  replace hr := Option.bind_eq_some_iff.mp hr
  obtain ⟨v23, e24, hr⟩ := hr
  refine rr_callVq (as := [.int v13, .int v15, .int v17, .int v19]) (st := [.int v11.1]) (mc' := 0) (ms' := 0) C dL_law_757 iv_L_79 (by decide) e22 rfl (Nat.le_of_ble_eq_true rfl) (c_X11_allowed 159 v13 v15 v17 v19 (by omega) e24) (fun v_ h_ n_ q_ => ?_)
  obtain ⟨q1_, q2_, q3_⟩ := q_
  subst v_; subst h_; subst n_
  show WW W0 G 4 _ _ _ 760 [some (.ref 0), some (.ref 48), some (.ref 159), some (.int l3)] [.int v23.1, .int v11.1] v23.2 n _ _
  refine rr_icmp_eq (tgt := 1550) C dL_law_760 (by decide) (fun c760_ => ?_) (fun c760_ => ?_)
  · replace hr := (if_pos c760_).symm.trans hr
    obtain rfl := Option.some.inj hr
    exact hx0 (show n ≤ n from by omega)
  · replace hr := (if_neg c760_).symm.trans hr
    cases hr
def st_law_15 (K : Nat) (h : mm_H) (n : Nat) (l3 : Int32) (kc ks : Nat) : Option (mm_H × Nat × Nat × Nat) :=
  (ldI h n 0 (l3 + 1)).bind fun v1 =>
  (ldI h n 0 (l3 + 2)).bind fun v3 =>
  (ldI h n 0 (l3 + 3)).bind fun v5 =>
  (ldI h n 0 (l3 + 4)).bind fun v7 =>
  (ldI h n 0 (l3 + 5)).bind fun v9 =>
  (ckq h n 48 9).bind fun u11 =>
  (q_X10_points K h n 48 v1 v3 v5 v7 v9).bind fun v13 =>
  (ldI v13.2 n 0 (l3 + 1)).bind fun v15 =>
  (ldI v13.2 n 0 (l3 + 2)).bind fun v17 =>
  (ldI v13.2 n 0 (l3 + 3)).bind fun v19 =>
  (ldI v13.2 n 0 (l3 + 4)).bind fun v21 =>
  (ldI v13.2 n 0 (l3 + 5)).bind fun v23 =>
  (ckq v13.2 n 159 10).bind fun u25 =>
  (q_X11_points K v13.2 n 159 v15 v17 v19 v21 v23).bind fun v27 =>
  if v13.1 = v27.1 then
    some (v27.2, n, kc, ks)
  else
  none
set_option maxRecDepth 100000 in
set_option maxHeartbeats 4000000 in
theorem b_law_15 {K : Nat} {nm_ : String} {W0 : mm_X} {G : mm_G} {Q_ : State → Prop} {h : mm_H} {n kc ks : Nat} (C : mm_C W0 G cL_law yL_law.cls 4 600000 7302250 (some .boolean) 300 nm_) (hn : 160 ≤ n) (l3 : Int32) {r_ : mm_H × Nat × Nat × Nat} (hr : st_law_15 K h n l3 kc ks = some r_) (hx0 : n ≤ r_.2.1 → WW W0 G 4 600000 7302250 Q_ 1550 [some (.ref 0), some (.ref 48), some (.ref 159), some (.int l3)] [] r_.1 r_.2.1 r_.2.2.1 r_.2.2.2) : WW W0 G 4 600000 7302250 Q_ 765 [some (.ref 0), some (.ref 48), some (.ref 159), some (.int l3)] [] h n kc ks := by
  unfold st_law_15 at hr
  refine rr_aload_n (i := 1) C dL_law_765 rfl rfl ?_
  refine rr_aload_n (i := 0) C dL_law_766 rfl rfl ?_
  refine rr_iload_n (i := 3) C dL_law_767 rfl rfl ?_
  refine rr_iconst (v := 1) C dL_law_768 (by decide) ?_
  refine rr_iadd C dL_law_769 ?_
  replace hr := Option.bind_eq_some_iff.mp hr
  obtain ⟨v1, e2, hr⟩ := hr
  refine rr_ldI C dL_law_770 e2 ?_
  refine rr_aload_n (i := 0) C dL_law_771 rfl rfl ?_
  refine rr_iload_n (i := 3) C dL_law_772 rfl rfl ?_
  refine rr_iconst (v := 2) C dL_law_773 (by decide) ?_
  refine rr_iadd C dL_law_774 ?_
  replace hr := Option.bind_eq_some_iff.mp hr
  obtain ⟨v3, e4, hr⟩ := hr
  refine rr_ldI C dL_law_775 e4 ?_
  refine rr_aload_n (i := 0) C dL_law_776 rfl rfl ?_
  refine rr_iload_n (i := 3) C dL_law_777 rfl rfl ?_
  refine rr_iconst (v := 3) C dL_law_778 (by decide) ?_
  refine rr_iadd C dL_law_779 ?_
  replace hr := Option.bind_eq_some_iff.mp hr
  obtain ⟨v5, e6, hr⟩ := hr
  refine rr_ldI C dL_law_780 e6 ?_
  refine rr_aload_n (i := 0) C dL_law_781 rfl rfl ?_
  refine rr_iload_n (i := 3) C dL_law_782 rfl rfl ?_
  refine rr_iconst (v := 4) C dL_law_783 (by decide) ?_
  refine rr_iadd C dL_law_784 ?_
  replace hr := Option.bind_eq_some_iff.mp hr
  obtain ⟨v7, e8, hr⟩ := hr
  refine rr_ldI C dL_law_785 e8 ?_
  refine rr_aload_n (i := 0) C dL_law_786 rfl rfl ?_
  refine rr_iload_n (i := 3) C dL_law_787 rfl rfl ?_
  refine rr_iconst (v := 5) C dL_law_788 (by decide) ?_
  refine rr_iadd C dL_law_789 ?_
  replace hr := Option.bind_eq_some_iff.mp hr
  obtain ⟨v9, e10, hr⟩ := hr
  refine rr_ldI C dL_law_790 e10 ?_
  replace hr := Option.bind_eq_some_iff.mp hr
  obtain ⟨u11, e12, hr⟩ := hr
  replace hr := Option.bind_eq_some_iff.mp hr
  obtain ⟨v13, e14, hr⟩ := hr
  refine rr_callVq (as := [.int v1, .int v3, .int v5, .int v7, .int v9]) (st := []) (mc' := 0) (ms' := 0) C dL_law_791 iv_L_80 (by decide) e12 rfl (Nat.le_of_ble_eq_true rfl) (c_X10_points 48 v1 v3 v5 v7 v9 (by omega) e14) (fun v_ h_ n_ q_ => ?_)
  obtain ⟨q1_, q2_, q3_⟩ := q_
  subst v_; subst h_; subst n_
  show WW W0 G 4 _ _ _ 794 [some (.ref 0), some (.ref 48), some (.ref 159), some (.int l3)] [.int v13.1] v13.2 n _ _
  refine rr_aload_n (i := 2) C dL_law_794 rfl rfl ?_
  refine rr_aload_n (i := 0) C dL_law_795 rfl rfl ?_
  refine rr_iload_n (i := 3) C dL_law_796 rfl rfl ?_
  refine rr_iconst (v := 1) C dL_law_797 (by decide) ?_
  refine rr_iadd C dL_law_798 ?_
  replace hr := Option.bind_eq_some_iff.mp hr
  obtain ⟨v15, e16, hr⟩ := hr
  refine rr_ldI C dL_law_799 e16 ?_
  refine rr_aload_n (i := 0) C dL_law_800 rfl rfl ?_
  refine rr_iload_n (i := 3) C dL_law_801 rfl rfl ?_
  refine rr_iconst (v := 2) C dL_law_802 (by decide) ?_
  refine rr_iadd C dL_law_803 ?_
  replace hr := Option.bind_eq_some_iff.mp hr
  obtain ⟨v17, e18, hr⟩ := hr
  refine rr_ldI C dL_law_804 e18 ?_
  refine rr_aload_n (i := 0) C dL_law_805 rfl rfl ?_
  refine rr_iload_n (i := 3) C dL_law_806 rfl rfl ?_
  refine rr_iconst (v := 3) C dL_law_807 (by decide) ?_
  refine rr_iadd C dL_law_808 ?_
  replace hr := Option.bind_eq_some_iff.mp hr
  obtain ⟨v19, e20, hr⟩ := hr
  refine rr_ldI C dL_law_809 e20 ?_
  refine rr_aload_n (i := 0) C dL_law_810 rfl rfl ?_
  refine rr_iload_n (i := 3) C dL_law_811 rfl rfl ?_
  refine rr_iconst (v := 4) C dL_law_812 (by decide) ?_
  refine rr_iadd C dL_law_813 ?_
  replace hr := Option.bind_eq_some_iff.mp hr
  obtain ⟨v21, e22, hr⟩ := hr
  refine rr_ldI C dL_law_814 e22 ?_
  refine rr_aload_n (i := 0) C dL_law_815 rfl rfl ?_
  refine rr_iload_n (i := 3) C dL_law_816 rfl rfl ?_
  refine rr_iconst (v := 5) C dL_law_817 (by decide) ?_
  refine rr_iadd C dL_law_818 ?_
  replace hr := Option.bind_eq_some_iff.mp hr
  obtain ⟨v23, e24, hr⟩ := hr
  refine rr_ldI C dL_law_819 e24 ?_
  replace hr := Option.bind_eq_some_iff.mp hr
  obtain ⟨u25, e26, hr⟩ := hr
  replace hr := Option.bind_eq_some_iff.mp hr
  obtain ⟨v27, e28, hr⟩ := hr
  refine rr_callVq (as := [.int v15, .int v17, .int v19, .int v21, .int v23]) (st := [.int v13.1]) (mc' := 0) (ms' := 0) C dL_law_820 iv_L_83 (by decide) e26 rfl (Nat.le_of_ble_eq_true rfl) (c_X11_points 159 v15 v17 v19 v21 v23 (by omega) e28) (fun v_ h_ n_ q_ => ?_)
  obtain ⟨q1_, q2_, q3_⟩ := q_
  subst v_; subst h_; subst n_
  show WW W0 G 4 _ _ _ 823 [some (.ref 0), some (.ref 48), some (.ref 159), some (.int l3)] [.int v27.1, .int v13.1] v27.2 n _ _
  refine rr_icmp_eq (tgt := 1550) C dL_law_823 (by decide) (fun c823_ => ?_) (fun c823_ => ?_)
  · replace hr := (if_pos c823_).symm.trans hr
    obtain rfl := Option.some.inj hr
    exact hx0 (show n ≤ n from by omega)
  · replace hr := (if_neg c823_).symm.trans hr
    cases hr
def st_law_16 (K : Nat) (h : mm_H) (n : Nat) (l3 : Int32) (kc ks : Nat) : Option (mm_H × Nat × Nat × Nat) :=
  (ldI h n 0 (l3 + 1)).bind fun v1 =>
  (ldI h n 0 (l3 + 2)).bind fun v3 =>
  (ckq h n 48 9).bind fun u5 =>
  (q_X10_worth K h n 48 v1 v3).bind fun v7 =>
  (ldI v7.2 n 0 (l3 + 1)).bind fun v9 =>
  (ldI v7.2 n 0 (l3 + 2)).bind fun v11 =>
  (ckq v7.2 n 159 10).bind fun u13 =>
  (q_X11_worth K v7.2 n 159 v9 v11).bind fun v15 =>
  if (lg_cmp v7.1 v15.1) = 0 then
    some (v15.2, n, kc, ks)
  else
  none
set_option maxRecDepth 100000 in
set_option maxHeartbeats 4000000 in
theorem b_law_16 {K : Nat} {nm_ : String} {W0 : mm_X} {G : mm_G} {Q_ : State → Prop} {h : mm_H} {n kc ks : Nat} (C : mm_C W0 G cL_law yL_law.cls 4 600000 7302250 (some .boolean) 300 nm_) (hn : 160 ≤ n) (l3 : Int32) {r_ : mm_H × Nat × Nat × Nat} (hr : st_law_16 K h n l3 kc ks = some r_) (hx0 : n ≤ r_.2.1 → WW W0 G 4 600000 7302250 Q_ 1550 [some (.ref 0), some (.ref 48), some (.ref 159), some (.int l3)] [] r_.1 r_.2.1 r_.2.2.1 r_.2.2.2) : WW W0 G 4 600000 7302250 Q_ 828 [some (.ref 0), some (.ref 48), some (.ref 159), some (.int l3)] [] h n kc ks := by
  unfold st_law_16 at hr
  refine rr_aload_n (i := 1) C dL_law_828 rfl rfl ?_
  refine rr_aload_n (i := 0) C dL_law_829 rfl rfl ?_
  refine rr_iload_n (i := 3) C dL_law_830 rfl rfl ?_
  refine rr_iconst (v := 1) C dL_law_831 (by decide) ?_
  refine rr_iadd C dL_law_832 ?_
  replace hr := Option.bind_eq_some_iff.mp hr
  obtain ⟨v1, e2, hr⟩ := hr
  refine rr_ldI C dL_law_833 e2 ?_
  refine rr_aload_n (i := 0) C dL_law_834 rfl rfl ?_
  refine rr_iload_n (i := 3) C dL_law_835 rfl rfl ?_
  refine rr_iconst (v := 2) C dL_law_836 (by decide) ?_
  refine rr_iadd C dL_law_837 ?_
  replace hr := Option.bind_eq_some_iff.mp hr
  obtain ⟨v3, e4, hr⟩ := hr
  refine rr_ldI C dL_law_838 e4 ?_
  replace hr := Option.bind_eq_some_iff.mp hr
  obtain ⟨u5, e6, hr⟩ := hr
  replace hr := Option.bind_eq_some_iff.mp hr
  obtain ⟨v7, e8, hr⟩ := hr
  refine rr_callVq (as := [.int v1, .int v3]) (st := []) (mc' := 0) (ms' := 0) C dL_law_839 iv_L_84 (by decide) e6 rfl (Nat.le_of_ble_eq_true rfl) (c_X10_worth 48 v1 v3 (by omega) e8) (fun v_ h_ n_ q_ => ?_)
  obtain ⟨q1_, q2_, q3_⟩ := q_
  subst v_; subst h_; subst n_
  show WW W0 G 4 _ _ _ 842 [some (.ref 0), some (.ref 48), some (.ref 159), some (.int l3)] [.long v7.1] v7.2 n _ _
  refine rr_aload_n (i := 2) C dL_law_842 rfl rfl ?_
  refine rr_aload_n (i := 0) C dL_law_843 rfl rfl ?_
  refine rr_iload_n (i := 3) C dL_law_844 rfl rfl ?_
  refine rr_iconst (v := 1) C dL_law_845 (by decide) ?_
  refine rr_iadd C dL_law_846 ?_
  replace hr := Option.bind_eq_some_iff.mp hr
  obtain ⟨v9, e10, hr⟩ := hr
  refine rr_ldI C dL_law_847 e10 ?_
  refine rr_aload_n (i := 0) C dL_law_848 rfl rfl ?_
  refine rr_iload_n (i := 3) C dL_law_849 rfl rfl ?_
  refine rr_iconst (v := 2) C dL_law_850 (by decide) ?_
  refine rr_iadd C dL_law_851 ?_
  replace hr := Option.bind_eq_some_iff.mp hr
  obtain ⟨v11, e12, hr⟩ := hr
  refine rr_ldI C dL_law_852 e12 ?_
  replace hr := Option.bind_eq_some_iff.mp hr
  obtain ⟨u13, e14, hr⟩ := hr
  replace hr := Option.bind_eq_some_iff.mp hr
  obtain ⟨v15, e16, hr⟩ := hr
  refine rr_callVq (as := [.int v9, .int v11]) (st := [.long v7.1]) (mc' := 0) (ms' := 0) C dL_law_853 iv_L_88 (by decide) e14 rfl (Nat.le_of_ble_eq_true rfl) (c_X11_worth 159 v9 v11 (by omega) e16) (fun v_ h_ n_ q_ => ?_)
  obtain ⟨q1_, q2_, q3_⟩ := q_
  subst v_; subst h_; subst n_
  show WW W0 G 4 _ _ _ 856 [some (.ref 0), some (.ref 48), some (.ref 159), some (.int l3)] [.long v15.1, .long v7.1] v15.2 n _ _
  refine rr_lcmp C dL_law_856 ?_
  refine rr_if_eq (tgt := 1550) C dL_law_857 (by decide) (fun c857_ => ?_) (fun c857_ => ?_)
  · replace hr := (if_pos c857_).symm.trans hr
    obtain rfl := Option.some.inj hr
    exact hx0 (show n ≤ n from by omega)
  · replace hr := (if_neg c857_).symm.trans hr
    cases hr
def st_law_17 (K : Nat) (h : mm_H) (n : Nat) (l3 : Int32) (kc ks : Nat) : Option (mm_H × Nat × Nat × Nat) :=
  (ldI h n 0 (l3 + 1)).bind fun v1 =>
  (ldI h n 0 (l3 + 2)).bind fun v3 =>
  (ldI h n 0 (l3 + 3)).bind fun v5 =>
  (ldI h n 0 (l3 + 4)).bind fun v7 =>
  (ckq h n 48 9).bind fun u9 =>
  (q_X10_line K h n 48 v1 v3 v5 v7).bind fun v11 =>
  (ldI v11.2 n 0 (l3 + 1)).bind fun v13 =>
  (ldI v11.2 n 0 (l3 + 2)).bind fun v15 =>
  (ldI v11.2 n 0 (l3 + 3)).bind fun v17 =>
  (ldI v11.2 n 0 (l3 + 4)).bind fun v19 =>
  (ckq v11.2 n 159 10).bind fun u21 =>
  (q_X11_line K v11.2 n 159 v13 v15 v17 v19).bind fun v23 =>
  if (lg_cmp v11.1 v23.1) = 0 then
    some (v23.2, n, kc, ks)
  else
  none
set_option maxRecDepth 100000 in
set_option maxHeartbeats 4000000 in
theorem b_law_17 {K : Nat} {nm_ : String} {W0 : mm_X} {G : mm_G} {Q_ : State → Prop} {h : mm_H} {n kc ks : Nat} (C : mm_C W0 G cL_law yL_law.cls 4 600000 7302250 (some .boolean) 300 nm_) (hn : 160 ≤ n) (l3 : Int32) {r_ : mm_H × Nat × Nat × Nat} (hr : st_law_17 K h n l3 kc ks = some r_) (hx0 : n ≤ r_.2.1 → WW W0 G 4 600000 7302250 Q_ 1550 [some (.ref 0), some (.ref 48), some (.ref 159), some (.int l3)] [] r_.1 r_.2.1 r_.2.2.1 r_.2.2.2) : WW W0 G 4 600000 7302250 Q_ 862 [some (.ref 0), some (.ref 48), some (.ref 159), some (.int l3)] [] h n kc ks := by
  unfold st_law_17 at hr
  refine rr_aload_n (i := 1) C dL_law_862 rfl rfl ?_
  refine rr_aload_n (i := 0) C dL_law_863 rfl rfl ?_
  refine rr_iload_n (i := 3) C dL_law_864 rfl rfl ?_
  refine rr_iconst (v := 1) C dL_law_865 (by decide) ?_
  refine rr_iadd C dL_law_866 ?_
  replace hr := Option.bind_eq_some_iff.mp hr
  obtain ⟨v1, e2, hr⟩ := hr
  refine rr_ldI C dL_law_867 e2 ?_
  refine rr_aload_n (i := 0) C dL_law_868 rfl rfl ?_
  refine rr_iload_n (i := 3) C dL_law_869 rfl rfl ?_
  refine rr_iconst (v := 2) C dL_law_870 (by decide) ?_
  refine rr_iadd C dL_law_871 ?_
  replace hr := Option.bind_eq_some_iff.mp hr
  obtain ⟨v3, e4, hr⟩ := hr
  refine rr_ldI C dL_law_872 e4 ?_
  refine rr_aload_n (i := 0) C dL_law_873 rfl rfl ?_
  refine rr_iload_n (i := 3) C dL_law_874 rfl rfl ?_
  refine rr_iconst (v := 3) C dL_law_875 (by decide) ?_
  refine rr_iadd C dL_law_876 ?_
  replace hr := Option.bind_eq_some_iff.mp hr
  obtain ⟨v5, e6, hr⟩ := hr
  refine rr_ldI C dL_law_877 e6 ?_
  refine rr_aload_n (i := 0) C dL_law_878 rfl rfl ?_
  refine rr_iload_n (i := 3) C dL_law_879 rfl rfl ?_
  refine rr_iconst (v := 4) C dL_law_880 (by decide) ?_
  refine rr_iadd C dL_law_881 ?_
  replace hr := Option.bind_eq_some_iff.mp hr
  obtain ⟨v7, e8, hr⟩ := hr
  refine rr_ldI C dL_law_882 e8 ?_
  replace hr := Option.bind_eq_some_iff.mp hr
  obtain ⟨u9, e10, hr⟩ := hr
  replace hr := Option.bind_eq_some_iff.mp hr
  obtain ⟨v11, e12, hr⟩ := hr
  refine rr_callVq (as := [.int v1, .int v3, .int v5, .int v7]) (st := []) (mc' := 0) (ms' := 0) C dL_law_883 iv_L_89 (by decide) e10 rfl (Nat.le_of_ble_eq_true rfl) (c_X10_line 48 v1 v3 v5 v7 (by omega) e12) (fun v_ h_ n_ q_ => ?_)
  obtain ⟨q1_, q2_, q3_⟩ := q_
  subst v_; subst h_; subst n_
  show WW W0 G 4 _ _ _ 886 [some (.ref 0), some (.ref 48), some (.ref 159), some (.int l3)] [.long v11.1] v11.2 n _ _
  refine rr_aload_n (i := 2) C dL_law_886 rfl rfl ?_
  refine rr_aload_n (i := 0) C dL_law_887 rfl rfl ?_
  refine rr_iload_n (i := 3) C dL_law_888 rfl rfl ?_
  refine rr_iconst (v := 1) C dL_law_889 (by decide) ?_
  refine rr_iadd C dL_law_890 ?_
  replace hr := Option.bind_eq_some_iff.mp hr
  obtain ⟨v13, e14, hr⟩ := hr
  refine rr_ldI C dL_law_891 e14 ?_
  refine rr_aload_n (i := 0) C dL_law_892 rfl rfl ?_
  refine rr_iload_n (i := 3) C dL_law_893 rfl rfl ?_
  refine rr_iconst (v := 2) C dL_law_894 (by decide) ?_
  refine rr_iadd C dL_law_895 ?_
  replace hr := Option.bind_eq_some_iff.mp hr
  obtain ⟨v15, e16, hr⟩ := hr
  refine rr_ldI C dL_law_896 e16 ?_
  refine rr_aload_n (i := 0) C dL_law_897 rfl rfl ?_
  refine rr_iload_n (i := 3) C dL_law_898 rfl rfl ?_
  refine rr_iconst (v := 3) C dL_law_899 (by decide) ?_
  refine rr_iadd C dL_law_900 ?_
  replace hr := Option.bind_eq_some_iff.mp hr
  obtain ⟨v17, e18, hr⟩ := hr
  refine rr_ldI C dL_law_901 e18 ?_
  refine rr_aload_n (i := 0) C dL_law_902 rfl rfl ?_
  refine rr_iload_n (i := 3) C dL_law_903 rfl rfl ?_
  refine rr_iconst (v := 4) C dL_law_904 (by decide) ?_
  refine rr_iadd C dL_law_905 ?_
  replace hr := Option.bind_eq_some_iff.mp hr
  obtain ⟨v19, e20, hr⟩ := hr
  refine rr_ldI C dL_law_906 e20 ?_
  replace hr := Option.bind_eq_some_iff.mp hr
  obtain ⟨u21, e22, hr⟩ := hr
  replace hr := Option.bind_eq_some_iff.mp hr
  obtain ⟨v23, e24, hr⟩ := hr
  refine rr_callVq (as := [.int v13, .int v15, .int v17, .int v19]) (st := [.long v11.1]) (mc' := 0) (ms' := 0) C dL_law_907 iv_L_93 (by decide) e22 rfl (Nat.le_of_ble_eq_true rfl) (c_X11_line 159 v13 v15 v17 v19 (by omega) e24) (fun v_ h_ n_ q_ => ?_)
  obtain ⟨q1_, q2_, q3_⟩ := q_
  subst v_; subst h_; subst n_
  show WW W0 G 4 _ _ _ 910 [some (.ref 0), some (.ref 48), some (.ref 159), some (.int l3)] [.long v23.1, .long v11.1] v23.2 n _ _
  refine rr_lcmp C dL_law_910 ?_
  refine rr_if_eq (tgt := 1550) C dL_law_911 (by decide) (fun c911_ => ?_) (fun c911_ => ?_)
  · replace hr := (if_pos c911_).symm.trans hr
    obtain rfl := Option.some.inj hr
    exact hx0 (show n ≤ n from by omega)
  · replace hr := (if_neg c911_).symm.trans hr
    cases hr
def st_law_18 (K : Nat) (h : mm_H) (n : Nat) (l3 : Int32) (kc ks : Nat) : Option (mm_H × Nat × Nat × Nat) :=
  (ldI h n 0 (l3 + 1)).bind fun v1 =>
  (ldI h n 0 (l3 + 2)).bind fun v3 =>
  (ldI h n 0 (l3 + 3)).bind fun v5 =>
  (ckq h n 48 9).bind fun u7 =>
  (q_X10_revenue K h n 48 v1 v3 v5).bind fun v9 =>
  (ldI v9.2 n 0 (l3 + 1)).bind fun v11 =>
  (ldI v9.2 n 0 (l3 + 2)).bind fun v13 =>
  (ldI v9.2 n 0 (l3 + 3)).bind fun v15 =>
  (ckq v9.2 n 159 10).bind fun u17 =>
  (q_X11_revenue K v9.2 n 159 v11 v13 v15).bind fun v19 =>
  if (lg_cmp v9.1 v19.1) = 0 then
    some (v19.2, n, kc, ks)
  else
  none
set_option maxRecDepth 100000 in
set_option maxHeartbeats 4000000 in
theorem b_law_18 {K : Nat} {nm_ : String} {W0 : mm_X} {G : mm_G} {Q_ : State → Prop} {h : mm_H} {n kc ks : Nat} (C : mm_C W0 G cL_law yL_law.cls 4 600000 7302250 (some .boolean) 300 nm_) (hn : 160 ≤ n) (l3 : Int32) {r_ : mm_H × Nat × Nat × Nat} (hr : st_law_18 K h n l3 kc ks = some r_) (hx0 : n ≤ r_.2.1 → WW W0 G 4 600000 7302250 Q_ 1550 [some (.ref 0), some (.ref 48), some (.ref 159), some (.int l3)] [] r_.1 r_.2.1 r_.2.2.1 r_.2.2.2) : WW W0 G 4 600000 7302250 Q_ 916 [some (.ref 0), some (.ref 48), some (.ref 159), some (.int l3)] [] h n kc ks := by
  unfold st_law_18 at hr
  refine rr_aload_n (i := 1) C dL_law_916 rfl rfl ?_
  refine rr_aload_n (i := 0) C dL_law_917 rfl rfl ?_
  refine rr_iload_n (i := 3) C dL_law_918 rfl rfl ?_
  refine rr_iconst (v := 1) C dL_law_919 (by decide) ?_
  refine rr_iadd C dL_law_920 ?_
  replace hr := Option.bind_eq_some_iff.mp hr
  obtain ⟨v1, e2, hr⟩ := hr
  refine rr_ldI C dL_law_921 e2 ?_
  refine rr_aload_n (i := 0) C dL_law_922 rfl rfl ?_
  refine rr_iload_n (i := 3) C dL_law_923 rfl rfl ?_
  refine rr_iconst (v := 2) C dL_law_924 (by decide) ?_
  refine rr_iadd C dL_law_925 ?_
  replace hr := Option.bind_eq_some_iff.mp hr
  obtain ⟨v3, e4, hr⟩ := hr
  refine rr_ldI C dL_law_926 e4 ?_
  refine rr_aload_n (i := 0) C dL_law_927 rfl rfl ?_
  refine rr_iload_n (i := 3) C dL_law_928 rfl rfl ?_
  refine rr_iconst (v := 3) C dL_law_929 (by decide) ?_
  refine rr_iadd C dL_law_930 ?_
  replace hr := Option.bind_eq_some_iff.mp hr
  obtain ⟨v5, e6, hr⟩ := hr
  refine rr_ldI C dL_law_931 e6 ?_
  replace hr := Option.bind_eq_some_iff.mp hr
  obtain ⟨u7, e8, hr⟩ := hr
  replace hr := Option.bind_eq_some_iff.mp hr
  obtain ⟨v9, e10, hr⟩ := hr
  refine rr_callVq (as := [.int v1, .int v3, .int v5]) (st := []) (mc' := 0) (ms' := 0) C dL_law_932 iv_L_94 (by decide) e8 rfl (Nat.le_of_ble_eq_true rfl) (c_X10_revenue 48 v1 v3 v5 (by omega) e10) (fun v_ h_ n_ q_ => ?_)
  obtain ⟨q1_, q2_, q3_⟩ := q_
  subst v_; subst h_; subst n_
  show WW W0 G 4 _ _ _ 935 [some (.ref 0), some (.ref 48), some (.ref 159), some (.int l3)] [.long v9.1] v9.2 n _ _
  refine rr_aload_n (i := 2) C dL_law_935 rfl rfl ?_
  refine rr_aload_n (i := 0) C dL_law_936 rfl rfl ?_
  refine rr_iload_n (i := 3) C dL_law_937 rfl rfl ?_
  refine rr_iconst (v := 1) C dL_law_938 (by decide) ?_
  refine rr_iadd C dL_law_939 ?_
  replace hr := Option.bind_eq_some_iff.mp hr
  obtain ⟨v11, e12, hr⟩ := hr
  refine rr_ldI C dL_law_940 e12 ?_
  refine rr_aload_n (i := 0) C dL_law_941 rfl rfl ?_
  refine rr_iload_n (i := 3) C dL_law_942 rfl rfl ?_
  refine rr_iconst (v := 2) C dL_law_943 (by decide) ?_
  refine rr_iadd C dL_law_944 ?_
  replace hr := Option.bind_eq_some_iff.mp hr
  obtain ⟨v13, e14, hr⟩ := hr
  refine rr_ldI C dL_law_945 e14 ?_
  refine rr_aload_n (i := 0) C dL_law_946 rfl rfl ?_
  refine rr_iload_n (i := 3) C dL_law_947 rfl rfl ?_
  refine rr_iconst (v := 3) C dL_law_948 (by decide) ?_
  refine rr_iadd C dL_law_949 ?_
  replace hr := Option.bind_eq_some_iff.mp hr
  obtain ⟨v15, e16, hr⟩ := hr
  refine rr_ldI C dL_law_950 e16 ?_
  replace hr := Option.bind_eq_some_iff.mp hr
  obtain ⟨u17, e18, hr⟩ := hr
  replace hr := Option.bind_eq_some_iff.mp hr
  obtain ⟨v19, e20, hr⟩ := hr
  refine rr_callVq (as := [.int v11, .int v13, .int v15]) (st := [.long v9.1]) (mc' := 0) (ms' := 0) C dL_law_951 iv_L_98 (by decide) e18 rfl (Nat.le_of_ble_eq_true rfl) (c_X11_revenue 159 v11 v13 v15 (by omega) e20) (fun v_ h_ n_ q_ => ?_)
  obtain ⟨q1_, q2_, q3_⟩ := q_
  subst v_; subst h_; subst n_
  show WW W0 G 4 _ _ _ 954 [some (.ref 0), some (.ref 48), some (.ref 159), some (.int l3)] [.long v19.1, .long v9.1] v19.2 n _ _
  refine rr_lcmp C dL_law_954 ?_
  refine rr_if_eq (tgt := 1550) C dL_law_955 (by decide) (fun c955_ => ?_) (fun c955_ => ?_)
  · replace hr := (if_pos c955_).symm.trans hr
    obtain rfl := Option.some.inj hr
    exact hx0 (show n ≤ n from by omega)
  · replace hr := (if_neg c955_).symm.trans hr
    cases hr
def st_law_19 (K : Nat) (h : mm_H) (n : Nat) (l3 : Int32) (kc ks : Nat) : Option (mm_H × Nat × Nat × Nat) :=
  (ldI h n 0 (l3 + 1)).bind fun v1 =>
  (ldI h n 0 (l3 + 2)).bind fun v3 =>
  (ldI h n 0 (l3 + 3)).bind fun v5 =>
  (ldI h n 0 (l3 + 4)).bind fun v7 =>
  (ckq h n 48 9).bind fun u9 =>
  (q_X10_bills K h n 48 v1 v3 v5 v7).bind fun v11 =>
  (ldI v11.2 n 0 (l3 + 1)).bind fun v13 =>
  (ldI v11.2 n 0 (l3 + 2)).bind fun v15 =>
  (ldI v11.2 n 0 (l3 + 3)).bind fun v17 =>
  (ldI v11.2 n 0 (l3 + 4)).bind fun v19 =>
  (ckq v11.2 n 159 10).bind fun u21 =>
  (q_X11_bills K v11.2 n 159 v13 v15 v17 v19).bind fun v23 =>
  if (lg_cmp v11.1 v23.1) = 0 then
    some (v23.2, n, kc, ks)
  else
  none
set_option maxRecDepth 100000 in
set_option maxHeartbeats 4000000 in
theorem b_law_19 {K : Nat} {nm_ : String} {W0 : mm_X} {G : mm_G} {Q_ : State → Prop} {h : mm_H} {n kc ks : Nat} (C : mm_C W0 G cL_law yL_law.cls 4 600000 7302250 (some .boolean) 300 nm_) (hn : 160 ≤ n) (l3 : Int32) {r_ : mm_H × Nat × Nat × Nat} (hr : st_law_19 K h n l3 kc ks = some r_) (hx0 : n ≤ r_.2.1 → WW W0 G 4 600000 7302250 Q_ 1550 [some (.ref 0), some (.ref 48), some (.ref 159), some (.int l3)] [] r_.1 r_.2.1 r_.2.2.1 r_.2.2.2) : WW W0 G 4 600000 7302250 Q_ 960 [some (.ref 0), some (.ref 48), some (.ref 159), some (.int l3)] [] h n kc ks := by
  unfold st_law_19 at hr
  refine rr_aload_n (i := 1) C dL_law_960 rfl rfl ?_
  refine rr_aload_n (i := 0) C dL_law_961 rfl rfl ?_
  refine rr_iload_n (i := 3) C dL_law_962 rfl rfl ?_
  refine rr_iconst (v := 1) C dL_law_963 (by decide) ?_
  refine rr_iadd C dL_law_964 ?_
  replace hr := Option.bind_eq_some_iff.mp hr
  obtain ⟨v1, e2, hr⟩ := hr
  refine rr_ldI C dL_law_965 e2 ?_
  refine rr_aload_n (i := 0) C dL_law_966 rfl rfl ?_
  refine rr_iload_n (i := 3) C dL_law_967 rfl rfl ?_
  refine rr_iconst (v := 2) C dL_law_968 (by decide) ?_
  refine rr_iadd C dL_law_969 ?_
  replace hr := Option.bind_eq_some_iff.mp hr
  obtain ⟨v3, e4, hr⟩ := hr
  refine rr_ldI C dL_law_970 e4 ?_
  refine rr_aload_n (i := 0) C dL_law_971 rfl rfl ?_
  refine rr_iload_n (i := 3) C dL_law_972 rfl rfl ?_
  refine rr_iconst (v := 3) C dL_law_973 (by decide) ?_
  refine rr_iadd C dL_law_974 ?_
  replace hr := Option.bind_eq_some_iff.mp hr
  obtain ⟨v5, e6, hr⟩ := hr
  refine rr_ldI C dL_law_975 e6 ?_
  refine rr_aload_n (i := 0) C dL_law_976 rfl rfl ?_
  refine rr_iload_n (i := 3) C dL_law_977 rfl rfl ?_
  refine rr_iconst (v := 4) C dL_law_978 (by decide) ?_
  refine rr_iadd C dL_law_979 ?_
  replace hr := Option.bind_eq_some_iff.mp hr
  obtain ⟨v7, e8, hr⟩ := hr
  refine rr_ldI C dL_law_980 e8 ?_
  replace hr := Option.bind_eq_some_iff.mp hr
  obtain ⟨u9, e10, hr⟩ := hr
  replace hr := Option.bind_eq_some_iff.mp hr
  obtain ⟨v11, e12, hr⟩ := hr
  refine rr_callVq (as := [.int v1, .int v3, .int v5, .int v7]) (st := []) (mc' := 0) (ms' := 0) C dL_law_981 iv_L_99 (by decide) e10 rfl (Nat.le_of_ble_eq_true rfl) (c_X10_bills 48 v1 v3 v5 v7 (by omega) e12) (fun v_ h_ n_ q_ => ?_)
  obtain ⟨q1_, q2_, q3_⟩ := q_
  subst v_; subst h_; subst n_
  show WW W0 G 4 _ _ _ 984 [some (.ref 0), some (.ref 48), some (.ref 159), some (.int l3)] [.long v11.1] v11.2 n _ _
  refine rr_aload_n (i := 2) C dL_law_984 rfl rfl ?_
  refine rr_aload_n (i := 0) C dL_law_985 rfl rfl ?_
  refine rr_iload_n (i := 3) C dL_law_986 rfl rfl ?_
  refine rr_iconst (v := 1) C dL_law_987 (by decide) ?_
  refine rr_iadd C dL_law_988 ?_
  replace hr := Option.bind_eq_some_iff.mp hr
  obtain ⟨v13, e14, hr⟩ := hr
  refine rr_ldI C dL_law_989 e14 ?_
  refine rr_aload_n (i := 0) C dL_law_990 rfl rfl ?_
  refine rr_iload_n (i := 3) C dL_law_991 rfl rfl ?_
  refine rr_iconst (v := 2) C dL_law_992 (by decide) ?_
  refine rr_iadd C dL_law_993 ?_
  replace hr := Option.bind_eq_some_iff.mp hr
  obtain ⟨v15, e16, hr⟩ := hr
  refine rr_ldI C dL_law_994 e16 ?_
  refine rr_aload_n (i := 0) C dL_law_995 rfl rfl ?_
  refine rr_iload_n (i := 3) C dL_law_996 rfl rfl ?_
  refine rr_iconst (v := 3) C dL_law_997 (by decide) ?_
  refine rr_iadd C dL_law_998 ?_
  replace hr := Option.bind_eq_some_iff.mp hr
  obtain ⟨v17, e18, hr⟩ := hr
  refine rr_ldI C dL_law_999 e18 ?_
  refine rr_aload_n (i := 0) C dL_law_1000 rfl rfl ?_
  refine rr_iload_n (i := 3) C dL_law_1001 rfl rfl ?_
  refine rr_iconst (v := 4) C dL_law_1002 (by decide) ?_
  refine rr_iadd C dL_law_1003 ?_
  replace hr := Option.bind_eq_some_iff.mp hr
  obtain ⟨v19, e20, hr⟩ := hr
  refine rr_ldI C dL_law_1004 e20 ?_
  replace hr := Option.bind_eq_some_iff.mp hr
  obtain ⟨u21, e22, hr⟩ := hr
  replace hr := Option.bind_eq_some_iff.mp hr
  obtain ⟨v23, e24, hr⟩ := hr
  refine rr_callVq (as := [.int v13, .int v15, .int v17, .int v19]) (st := [.long v11.1]) (mc' := 0) (ms' := 0) C dL_law_1005 iv_L_102 (by decide) e22 rfl (Nat.le_of_ble_eq_true rfl) (c_X11_bills 159 v13 v15 v17 v19 (by omega) e24) (fun v_ h_ n_ q_ => ?_)
  obtain ⟨q1_, q2_, q3_⟩ := q_
  subst v_; subst h_; subst n_
  show WW W0 G 4 _ _ _ 1008 [some (.ref 0), some (.ref 48), some (.ref 159), some (.int l3)] [.long v23.1, .long v11.1] v23.2 n _ _
  refine rr_lcmp C dL_law_1008 ?_
  refine rr_if_eq (tgt := 1550) C dL_law_1009 (by decide) (fun c1009_ => ?_) (fun c1009_ => ?_)
  · replace hr := (if_pos c1009_).symm.trans hr
    obtain rfl := Option.some.inj hr
    exact hx0 (show n ≤ n from by omega)
  · replace hr := (if_neg c1009_).symm.trans hr
    cases hr
def st_law_20 (K : Nat) (h : mm_H) (n : Nat) (l3 : Int32) (kc ks : Nat) : Option (mm_H × Nat × Nat × Nat) :=
  (ldI h n 0 (l3 + 1)).bind fun v1 =>
  (ldI h n 0 (l3 + 2)).bind fun v3 =>
  (ldI h n 0 (l3 + 3)).bind fun v5 =>
  (ldI h n 0 (l3 + 4)).bind fun v7 =>
  (ckq h n 48 9).bind fun u9 =>
  (q_X10_home K h n 48 v1 v3 v5 v7).bind fun v11 =>
  (ldI v11.2 n 0 (l3 + 1)).bind fun v13 =>
  (ldI v11.2 n 0 (l3 + 2)).bind fun v15 =>
  (ldI v11.2 n 0 (l3 + 3)).bind fun v17 =>
  (ldI v11.2 n 0 (l3 + 4)).bind fun v19 =>
  (ckq v11.2 n 159 10).bind fun u21 =>
  (q_X11_home K v11.2 n 159 v13 v15 v17 v19).bind fun v23 =>
  if (lg_cmp v11.1 v23.1) = 0 then
    some (v23.2, n, kc, ks)
  else
  none
set_option maxRecDepth 100000 in
set_option maxHeartbeats 4000000 in
theorem b_law_20 {K : Nat} {nm_ : String} {W0 : mm_X} {G : mm_G} {Q_ : State → Prop} {h : mm_H} {n kc ks : Nat} (C : mm_C W0 G cL_law yL_law.cls 4 600000 7302250 (some .boolean) 300 nm_) (hn : 160 ≤ n) (l3 : Int32) {r_ : mm_H × Nat × Nat × Nat} (hr : st_law_20 K h n l3 kc ks = some r_) (hx0 : n ≤ r_.2.1 → WW W0 G 4 600000 7302250 Q_ 1550 [some (.ref 0), some (.ref 48), some (.ref 159), some (.int l3)] [] r_.1 r_.2.1 r_.2.2.1 r_.2.2.2) : WW W0 G 4 600000 7302250 Q_ 1014 [some (.ref 0), some (.ref 48), some (.ref 159), some (.int l3)] [] h n kc ks := by
  unfold st_law_20 at hr
  refine rr_aload_n (i := 1) C dL_law_1014 rfl rfl ?_
  refine rr_aload_n (i := 0) C dL_law_1015 rfl rfl ?_
  refine rr_iload_n (i := 3) C dL_law_1016 rfl rfl ?_
  refine rr_iconst (v := 1) C dL_law_1017 (by decide) ?_
  refine rr_iadd C dL_law_1018 ?_
  replace hr := Option.bind_eq_some_iff.mp hr
  obtain ⟨v1, e2, hr⟩ := hr
  refine rr_ldI C dL_law_1019 e2 ?_
  refine rr_aload_n (i := 0) C dL_law_1020 rfl rfl ?_
  refine rr_iload_n (i := 3) C dL_law_1021 rfl rfl ?_
  refine rr_iconst (v := 2) C dL_law_1022 (by decide) ?_
  refine rr_iadd C dL_law_1023 ?_
  replace hr := Option.bind_eq_some_iff.mp hr
  obtain ⟨v3, e4, hr⟩ := hr
  refine rr_ldI C dL_law_1024 e4 ?_
  refine rr_aload_n (i := 0) C dL_law_1025 rfl rfl ?_
  refine rr_iload_n (i := 3) C dL_law_1026 rfl rfl ?_
  refine rr_iconst (v := 3) C dL_law_1027 (by decide) ?_
  refine rr_iadd C dL_law_1028 ?_
  replace hr := Option.bind_eq_some_iff.mp hr
  obtain ⟨v5, e6, hr⟩ := hr
  refine rr_ldI C dL_law_1029 e6 ?_
  refine rr_aload_n (i := 0) C dL_law_1030 rfl rfl ?_
  refine rr_iload_n (i := 3) C dL_law_1031 rfl rfl ?_
  refine rr_iconst (v := 4) C dL_law_1032 (by decide) ?_
  refine rr_iadd C dL_law_1033 ?_
  replace hr := Option.bind_eq_some_iff.mp hr
  obtain ⟨v7, e8, hr⟩ := hr
  refine rr_ldI C dL_law_1034 e8 ?_
  replace hr := Option.bind_eq_some_iff.mp hr
  obtain ⟨u9, e10, hr⟩ := hr
  replace hr := Option.bind_eq_some_iff.mp hr
  obtain ⟨v11, e12, hr⟩ := hr
  refine rr_callVq (as := [.int v1, .int v3, .int v5, .int v7]) (st := []) (mc' := 0) (ms' := 0) C dL_law_1035 iv_L_103 (by decide) e10 rfl (Nat.le_of_ble_eq_true rfl) (c_X10_home 48 v1 v3 v5 v7 (by omega) e12) (fun v_ h_ n_ q_ => ?_)
  obtain ⟨q1_, q2_, q3_⟩ := q_
  subst v_; subst h_; subst n_
  show WW W0 G 4 _ _ _ 1038 [some (.ref 0), some (.ref 48), some (.ref 159), some (.int l3)] [.long v11.1] v11.2 n _ _
  refine rr_aload_n (i := 2) C dL_law_1038 rfl rfl ?_
  refine rr_aload_n (i := 0) C dL_law_1039 rfl rfl ?_
  refine rr_iload_n (i := 3) C dL_law_1040 rfl rfl ?_
  refine rr_iconst (v := 1) C dL_law_1041 (by decide) ?_
  refine rr_iadd C dL_law_1042 ?_
  replace hr := Option.bind_eq_some_iff.mp hr
  obtain ⟨v13, e14, hr⟩ := hr
  refine rr_ldI C dL_law_1043 e14 ?_
  refine rr_aload_n (i := 0) C dL_law_1044 rfl rfl ?_
  refine rr_iload_n (i := 3) C dL_law_1045 rfl rfl ?_
  refine rr_iconst (v := 2) C dL_law_1046 (by decide) ?_
  refine rr_iadd C dL_law_1047 ?_
  replace hr := Option.bind_eq_some_iff.mp hr
  obtain ⟨v15, e16, hr⟩ := hr
  refine rr_ldI C dL_law_1048 e16 ?_
  refine rr_aload_n (i := 0) C dL_law_1049 rfl rfl ?_
  refine rr_iload_n (i := 3) C dL_law_1050 rfl rfl ?_
  refine rr_iconst (v := 3) C dL_law_1051 (by decide) ?_
  refine rr_iadd C dL_law_1052 ?_
  replace hr := Option.bind_eq_some_iff.mp hr
  obtain ⟨v17, e18, hr⟩ := hr
  refine rr_ldI C dL_law_1053 e18 ?_
  refine rr_aload_n (i := 0) C dL_law_1054 rfl rfl ?_
  refine rr_iload_n (i := 3) C dL_law_1055 rfl rfl ?_
  refine rr_iconst (v := 4) C dL_law_1056 (by decide) ?_
  refine rr_iadd C dL_law_1057 ?_
  replace hr := Option.bind_eq_some_iff.mp hr
  obtain ⟨v19, e20, hr⟩ := hr
  refine rr_ldI C dL_law_1058 e20 ?_
  replace hr := Option.bind_eq_some_iff.mp hr
  obtain ⟨u21, e22, hr⟩ := hr
  replace hr := Option.bind_eq_some_iff.mp hr
  obtain ⟨v23, e24, hr⟩ := hr
  refine rr_callVq (as := [.int v13, .int v15, .int v17, .int v19]) (st := [.long v11.1]) (mc' := 0) (ms' := 0) C dL_law_1059 iv_L_106 (by decide) e22 rfl (Nat.le_of_ble_eq_true rfl) (c_X11_home 159 v13 v15 v17 v19 (by omega) e24) (fun v_ h_ n_ q_ => ?_)
  obtain ⟨q1_, q2_, q3_⟩ := q_
  subst v_; subst h_; subst n_
  show WW W0 G 4 _ _ _ 1062 [some (.ref 0), some (.ref 48), some (.ref 159), some (.int l3)] [.long v23.1, .long v11.1] v23.2 n _ _
  refine rr_lcmp C dL_law_1062 ?_
  refine rr_if_eq (tgt := 1550) C dL_law_1063 (by decide) (fun c1063_ => ?_) (fun c1063_ => ?_)
  · replace hr := (if_pos c1063_).symm.trans hr
    obtain rfl := Option.some.inj hr
    exact hx0 (show n ≤ n from by omega)
  · replace hr := (if_neg c1063_).symm.trans hr
    cases hr
def st_law_21 (K : Nat) (h : mm_H) (n : Nat) (l3 : Int32) (kc ks : Nat) : Option (mm_H × Nat × Nat × Nat) :=
  (ldI h n 0 (l3 + 1)).bind fun v1 =>
  (ldI h n 0 (l3 + 2)).bind fun v3 =>
  (ckq h n 48 9).bind fun u5 =>
  (q_X10_tried K h n 48 v1 v3).bind fun v7 =>
  (ldI v7.2 n 0 (l3 + 1)).bind fun v9 =>
  (ldI v7.2 n 0 (l3 + 2)).bind fun v11 =>
  (ckq v7.2 n 159 10).bind fun u13 =>
  (q_X11_tried K v7.2 n 159 v9 v11).bind fun v15 =>
  if (lg_cmp v7.1 v15.1) = 0 then
    some (v15.2, n, kc, ks)
  else
  none
set_option maxRecDepth 100000 in
set_option maxHeartbeats 4000000 in
theorem b_law_21 {K : Nat} {nm_ : String} {W0 : mm_X} {G : mm_G} {Q_ : State → Prop} {h : mm_H} {n kc ks : Nat} (C : mm_C W0 G cL_law yL_law.cls 4 600000 7302250 (some .boolean) 300 nm_) (hn : 160 ≤ n) (l3 : Int32) {r_ : mm_H × Nat × Nat × Nat} (hr : st_law_21 K h n l3 kc ks = some r_) (hx0 : n ≤ r_.2.1 → WW W0 G 4 600000 7302250 Q_ 1550 [some (.ref 0), some (.ref 48), some (.ref 159), some (.int l3)] [] r_.1 r_.2.1 r_.2.2.1 r_.2.2.2) : WW W0 G 4 600000 7302250 Q_ 1068 [some (.ref 0), some (.ref 48), some (.ref 159), some (.int l3)] [] h n kc ks := by
  unfold st_law_21 at hr
  refine rr_aload_n (i := 1) C dL_law_1068 rfl rfl ?_
  refine rr_aload_n (i := 0) C dL_law_1069 rfl rfl ?_
  refine rr_iload_n (i := 3) C dL_law_1070 rfl rfl ?_
  refine rr_iconst (v := 1) C dL_law_1071 (by decide) ?_
  refine rr_iadd C dL_law_1072 ?_
  replace hr := Option.bind_eq_some_iff.mp hr
  obtain ⟨v1, e2, hr⟩ := hr
  refine rr_ldI C dL_law_1073 e2 ?_
  refine rr_aload_n (i := 0) C dL_law_1074 rfl rfl ?_
  refine rr_iload_n (i := 3) C dL_law_1075 rfl rfl ?_
  refine rr_iconst (v := 2) C dL_law_1076 (by decide) ?_
  refine rr_iadd C dL_law_1077 ?_
  replace hr := Option.bind_eq_some_iff.mp hr
  obtain ⟨v3, e4, hr⟩ := hr
  refine rr_ldI C dL_law_1078 e4 ?_
  replace hr := Option.bind_eq_some_iff.mp hr
  obtain ⟨u5, e6, hr⟩ := hr
  replace hr := Option.bind_eq_some_iff.mp hr
  obtain ⟨v7, e8, hr⟩ := hr
  refine rr_callVq (as := [.int v1, .int v3]) (st := []) (mc' := 0) (ms' := 0) C dL_law_1079 iv_L_107 (by decide) e6 rfl (Nat.le_of_ble_eq_true rfl) (c_X10_tried 48 v1 v3 (by omega) e8) (fun v_ h_ n_ q_ => ?_)
  obtain ⟨q1_, q2_, q3_⟩ := q_
  subst v_; subst h_; subst n_
  show WW W0 G 4 _ _ _ 1082 [some (.ref 0), some (.ref 48), some (.ref 159), some (.int l3)] [.long v7.1] v7.2 n _ _
  refine rr_aload_n (i := 2) C dL_law_1082 rfl rfl ?_
  refine rr_aload_n (i := 0) C dL_law_1083 rfl rfl ?_
  refine rr_iload_n (i := 3) C dL_law_1084 rfl rfl ?_
  refine rr_iconst (v := 1) C dL_law_1085 (by decide) ?_
  refine rr_iadd C dL_law_1086 ?_
  replace hr := Option.bind_eq_some_iff.mp hr
  obtain ⟨v9, e10, hr⟩ := hr
  refine rr_ldI C dL_law_1087 e10 ?_
  refine rr_aload_n (i := 0) C dL_law_1088 rfl rfl ?_
  refine rr_iload_n (i := 3) C dL_law_1089 rfl rfl ?_
  refine rr_iconst (v := 2) C dL_law_1090 (by decide) ?_
  refine rr_iadd C dL_law_1091 ?_
  replace hr := Option.bind_eq_some_iff.mp hr
  obtain ⟨v11, e12, hr⟩ := hr
  refine rr_ldI C dL_law_1092 e12 ?_
  replace hr := Option.bind_eq_some_iff.mp hr
  obtain ⟨u13, e14, hr⟩ := hr
  replace hr := Option.bind_eq_some_iff.mp hr
  obtain ⟨v15, e16, hr⟩ := hr
  refine rr_callVq (as := [.int v9, .int v11]) (st := [.long v7.1]) (mc' := 0) (ms' := 0) C dL_law_1093 iv_L_110 (by decide) e14 rfl (Nat.le_of_ble_eq_true rfl) (c_X11_tried 159 v9 v11 (by omega) e16) (fun v_ h_ n_ q_ => ?_)
  obtain ⟨q1_, q2_, q3_⟩ := q_
  subst v_; subst h_; subst n_
  show WW W0 G 4 _ _ _ 1096 [some (.ref 0), some (.ref 48), some (.ref 159), some (.int l3)] [.long v15.1, .long v7.1] v15.2 n _ _
  refine rr_lcmp C dL_law_1096 ?_
  refine rr_if_eq (tgt := 1550) C dL_law_1097 (by decide) (fun c1097_ => ?_) (fun c1097_ => ?_)
  · replace hr := (if_pos c1097_).symm.trans hr
    obtain rfl := Option.some.inj hr
    exact hx0 (show n ≤ n from by omega)
  · replace hr := (if_neg c1097_).symm.trans hr
    cases hr
def st_law_22 (K : Nat) (h : mm_H) (n : Nat) (l3 : Int32) (kc ks : Nat) : Option (mm_H × Nat × Nat × Nat) :=
  (ldI h n 0 (l3 + 1)).bind fun v1 =>
  (ldI h n 0 (l3 + 2)).bind fun v3 =>
  (ldI h n 0 (l3 + 3)).bind fun v5 =>
  (ldI h n 0 (l3 + 4)).bind fun v7 =>
  (ckq h n 48 9).bind fun u9 =>
  (q_X10_hole K h n 48 v1 v3 v5 v7).bind fun v11 =>
  (ldI v11.2 n 0 (l3 + 1)).bind fun v13 =>
  (ldI v11.2 n 0 (l3 + 2)).bind fun v15 =>
  (ldI v11.2 n 0 (l3 + 3)).bind fun v17 =>
  (ldI v11.2 n 0 (l3 + 4)).bind fun v19 =>
  (ckq v11.2 n 159 10).bind fun u21 =>
  (q_X11_hole K v11.2 n 159 v13 v15 v17 v19).bind fun v23 =>
  if (lg_cmp v11.1 v23.1) = 0 then
    some (v23.2, n, kc, ks)
  else
  none
set_option maxRecDepth 100000 in
set_option maxHeartbeats 4000000 in
theorem b_law_22 {K : Nat} {nm_ : String} {W0 : mm_X} {G : mm_G} {Q_ : State → Prop} {h : mm_H} {n kc ks : Nat} (C : mm_C W0 G cL_law yL_law.cls 4 600000 7302250 (some .boolean) 300 nm_) (hn : 160 ≤ n) (l3 : Int32) {r_ : mm_H × Nat × Nat × Nat} (hr : st_law_22 K h n l3 kc ks = some r_) (hx0 : n ≤ r_.2.1 → WW W0 G 4 600000 7302250 Q_ 1550 [some (.ref 0), some (.ref 48), some (.ref 159), some (.int l3)] [] r_.1 r_.2.1 r_.2.2.1 r_.2.2.2) : WW W0 G 4 600000 7302250 Q_ 1102 [some (.ref 0), some (.ref 48), some (.ref 159), some (.int l3)] [] h n kc ks := by
  unfold st_law_22 at hr
  refine rr_aload_n (i := 1) C dL_law_1102 rfl rfl ?_
  refine rr_aload_n (i := 0) C dL_law_1103 rfl rfl ?_
  refine rr_iload_n (i := 3) C dL_law_1104 rfl rfl ?_
  refine rr_iconst (v := 1) C dL_law_1105 (by decide) ?_
  refine rr_iadd C dL_law_1106 ?_
  replace hr := Option.bind_eq_some_iff.mp hr
  obtain ⟨v1, e2, hr⟩ := hr
  refine rr_ldI C dL_law_1107 e2 ?_
  refine rr_aload_n (i := 0) C dL_law_1108 rfl rfl ?_
  refine rr_iload_n (i := 3) C dL_law_1109 rfl rfl ?_
  refine rr_iconst (v := 2) C dL_law_1110 (by decide) ?_
  refine rr_iadd C dL_law_1111 ?_
  replace hr := Option.bind_eq_some_iff.mp hr
  obtain ⟨v3, e4, hr⟩ := hr
  refine rr_ldI C dL_law_1112 e4 ?_
  refine rr_aload_n (i := 0) C dL_law_1113 rfl rfl ?_
  refine rr_iload_n (i := 3) C dL_law_1114 rfl rfl ?_
  refine rr_iconst (v := 3) C dL_law_1115 (by decide) ?_
  refine rr_iadd C dL_law_1116 ?_
  replace hr := Option.bind_eq_some_iff.mp hr
  obtain ⟨v5, e6, hr⟩ := hr
  refine rr_ldI C dL_law_1117 e6 ?_
  refine rr_aload_n (i := 0) C dL_law_1118 rfl rfl ?_
  refine rr_iload_n (i := 3) C dL_law_1119 rfl rfl ?_
  refine rr_iconst (v := 4) C dL_law_1120 (by decide) ?_
  refine rr_iadd C dL_law_1121 ?_
  replace hr := Option.bind_eq_some_iff.mp hr
  obtain ⟨v7, e8, hr⟩ := hr
  refine rr_ldI C dL_law_1122 e8 ?_
  replace hr := Option.bind_eq_some_iff.mp hr
  obtain ⟨u9, e10, hr⟩ := hr
  replace hr := Option.bind_eq_some_iff.mp hr
  obtain ⟨v11, e12, hr⟩ := hr
  refine rr_callVq (as := [.int v1, .int v3, .int v5, .int v7]) (st := []) (mc' := 0) (ms' := 0) C dL_law_1123 iv_L_111 (by decide) e10 rfl (Nat.le_of_ble_eq_true rfl) (c_X10_hole 48 v1 v3 v5 v7 (by omega) e12) (fun v_ h_ n_ q_ => ?_)
  obtain ⟨q1_, q2_, q3_⟩ := q_
  subst v_; subst h_; subst n_
  show WW W0 G 4 _ _ _ 1126 [some (.ref 0), some (.ref 48), some (.ref 159), some (.int l3)] [.long v11.1] v11.2 n _ _
  refine rr_aload_n (i := 2) C dL_law_1126 rfl rfl ?_
  refine rr_aload_n (i := 0) C dL_law_1127 rfl rfl ?_
  refine rr_iload_n (i := 3) C dL_law_1128 rfl rfl ?_
  refine rr_iconst (v := 1) C dL_law_1129 (by decide) ?_
  refine rr_iadd C dL_law_1130 ?_
  replace hr := Option.bind_eq_some_iff.mp hr
  obtain ⟨v13, e14, hr⟩ := hr
  refine rr_ldI C dL_law_1131 e14 ?_
  refine rr_aload_n (i := 0) C dL_law_1132 rfl rfl ?_
  refine rr_iload_n (i := 3) C dL_law_1133 rfl rfl ?_
  refine rr_iconst (v := 2) C dL_law_1134 (by decide) ?_
  refine rr_iadd C dL_law_1135 ?_
  replace hr := Option.bind_eq_some_iff.mp hr
  obtain ⟨v15, e16, hr⟩ := hr
  refine rr_ldI C dL_law_1136 e16 ?_
  refine rr_aload_n (i := 0) C dL_law_1137 rfl rfl ?_
  refine rr_iload_n (i := 3) C dL_law_1138 rfl rfl ?_
  refine rr_iconst (v := 3) C dL_law_1139 (by decide) ?_
  refine rr_iadd C dL_law_1140 ?_
  replace hr := Option.bind_eq_some_iff.mp hr
  obtain ⟨v17, e18, hr⟩ := hr
  refine rr_ldI C dL_law_1141 e18 ?_
  refine rr_aload_n (i := 0) C dL_law_1142 rfl rfl ?_
  refine rr_iload_n (i := 3) C dL_law_1143 rfl rfl ?_
  refine rr_iconst (v := 4) C dL_law_1144 (by decide) ?_
  refine rr_iadd C dL_law_1145 ?_
  replace hr := Option.bind_eq_some_iff.mp hr
  obtain ⟨v19, e20, hr⟩ := hr
  refine rr_ldI C dL_law_1146 e20 ?_
  replace hr := Option.bind_eq_some_iff.mp hr
  obtain ⟨u21, e22, hr⟩ := hr
  replace hr := Option.bind_eq_some_iff.mp hr
  obtain ⟨v23, e24, hr⟩ := hr
  refine rr_callVq (as := [.int v13, .int v15, .int v17, .int v19]) (st := [.long v11.1]) (mc' := 0) (ms' := 0) C dL_law_1147 iv_L_114 (by decide) e22 rfl (Nat.le_of_ble_eq_true rfl) (c_X11_hole 159 v13 v15 v17 v19 (by omega) e24) (fun v_ h_ n_ q_ => ?_)
  obtain ⟨q1_, q2_, q3_⟩ := q_
  subst v_; subst h_; subst n_
  show WW W0 G 4 _ _ _ 1150 [some (.ref 0), some (.ref 48), some (.ref 159), some (.int l3)] [.long v23.1, .long v11.1] v23.2 n _ _
  refine rr_lcmp C dL_law_1150 ?_
  refine rr_if_eq (tgt := 1550) C dL_law_1151 (by decide) (fun c1151_ => ?_) (fun c1151_ => ?_)
  · replace hr := (if_pos c1151_).symm.trans hr
    obtain rfl := Option.some.inj hr
    exact hx0 (show n ≤ n from by omega)
  · replace hr := (if_neg c1151_).symm.trans hr
    cases hr
def st_law_23 (K : Nat) (h : mm_H) (n : Nat) (l3 : Int32) (kc ks : Nat) : Option (mm_H × Nat × Nat × Nat) :=
  (ldI h n 0 (l3 + 1)).bind fun v1 =>
  (ldI h n 0 (l3 + 2)).bind fun v3 =>
  (ldI h n 0 (l3 + 3)).bind fun v5 =>
  (ldI h n 0 (l3 + 4)).bind fun v7 =>
  (ldI h n 0 (l3 + 5)).bind fun v9 =>
  (ldI h n 0 (l3 + 6)).bind fun v11 =>
  (ckq h n 48 9).bind fun u13 =>
  (q_X10_span K h n 48 v1 v3 v5 v7 v9 v11).bind fun v15 =>
  (ldI v15.2 n 0 (l3 + 1)).bind fun v17 =>
  (ldI v15.2 n 0 (l3 + 2)).bind fun v19 =>
  (ldI v15.2 n 0 (l3 + 3)).bind fun v21 =>
  (ldI v15.2 n 0 (l3 + 4)).bind fun v23 =>
  (ldI v15.2 n 0 (l3 + 5)).bind fun v25 =>
  (ldI v15.2 n 0 (l3 + 6)).bind fun v27 =>
  (ckq v15.2 n 159 10).bind fun u29 =>
  (q_X11_span K v15.2 n 159 v17 v19 v21 v23 v25 v27).bind fun v31 =>
  if v15.1 = v31.1 then
    some (v31.2, n, kc, ks)
  else
  none
set_option maxRecDepth 100000 in
set_option maxHeartbeats 4000000 in
theorem b_law_23 {K : Nat} {nm_ : String} {W0 : mm_X} {G : mm_G} {Q_ : State → Prop} {h : mm_H} {n kc ks : Nat} (C : mm_C W0 G cL_law yL_law.cls 4 600000 7302250 (some .boolean) 300 nm_) (hn : 160 ≤ n) (l3 : Int32) {r_ : mm_H × Nat × Nat × Nat} (hr : st_law_23 K h n l3 kc ks = some r_) (hx0 : n ≤ r_.2.1 → WW W0 G 4 600000 7302250 Q_ 1550 [some (.ref 0), some (.ref 48), some (.ref 159), some (.int l3)] [] r_.1 r_.2.1 r_.2.2.1 r_.2.2.2) : WW W0 G 4 600000 7302250 Q_ 1156 [some (.ref 0), some (.ref 48), some (.ref 159), some (.int l3)] [] h n kc ks := by
  unfold st_law_23 at hr
  refine rr_aload_n (i := 1) C dL_law_1156 rfl rfl ?_
  refine rr_aload_n (i := 0) C dL_law_1157 rfl rfl ?_
  refine rr_iload_n (i := 3) C dL_law_1158 rfl rfl ?_
  refine rr_iconst (v := 1) C dL_law_1159 (by decide) ?_
  refine rr_iadd C dL_law_1160 ?_
  replace hr := Option.bind_eq_some_iff.mp hr
  obtain ⟨v1, e2, hr⟩ := hr
  refine rr_ldI C dL_law_1161 e2 ?_
  refine rr_aload_n (i := 0) C dL_law_1162 rfl rfl ?_
  refine rr_iload_n (i := 3) C dL_law_1163 rfl rfl ?_
  refine rr_iconst (v := 2) C dL_law_1164 (by decide) ?_
  refine rr_iadd C dL_law_1165 ?_
  replace hr := Option.bind_eq_some_iff.mp hr
  obtain ⟨v3, e4, hr⟩ := hr
  refine rr_ldI C dL_law_1166 e4 ?_
  refine rr_aload_n (i := 0) C dL_law_1167 rfl rfl ?_
  refine rr_iload_n (i := 3) C dL_law_1168 rfl rfl ?_
  refine rr_iconst (v := 3) C dL_law_1169 (by decide) ?_
  refine rr_iadd C dL_law_1170 ?_
  replace hr := Option.bind_eq_some_iff.mp hr
  obtain ⟨v5, e6, hr⟩ := hr
  refine rr_ldI C dL_law_1171 e6 ?_
  refine rr_aload_n (i := 0) C dL_law_1172 rfl rfl ?_
  refine rr_iload_n (i := 3) C dL_law_1173 rfl rfl ?_
  refine rr_iconst (v := 4) C dL_law_1174 (by decide) ?_
  refine rr_iadd C dL_law_1175 ?_
  replace hr := Option.bind_eq_some_iff.mp hr
  obtain ⟨v7, e8, hr⟩ := hr
  refine rr_ldI C dL_law_1176 e8 ?_
  refine rr_aload_n (i := 0) C dL_law_1177 rfl rfl ?_
  refine rr_iload_n (i := 3) C dL_law_1178 rfl rfl ?_
  refine rr_iconst (v := 5) C dL_law_1179 (by decide) ?_
  refine rr_iadd C dL_law_1180 ?_
  replace hr := Option.bind_eq_some_iff.mp hr
  obtain ⟨v9, e10, hr⟩ := hr
  refine rr_ldI C dL_law_1181 e10 ?_
  refine rr_aload_n (i := 0) C dL_law_1182 rfl rfl ?_
  refine rr_iload_n (i := 3) C dL_law_1183 rfl rfl ?_
  refine rr_bipush (v := 6) C dL_law_1184 (by decide) ?_
  refine rr_iadd C dL_law_1186 ?_
  replace hr := Option.bind_eq_some_iff.mp hr
  obtain ⟨v11, e12, hr⟩ := hr
  refine rr_ldI C dL_law_1187 e12 ?_
  replace hr := Option.bind_eq_some_iff.mp hr
  obtain ⟨u13, e14, hr⟩ := hr
  replace hr := Option.bind_eq_some_iff.mp hr
  obtain ⟨v15, e16, hr⟩ := hr
  refine rr_callVq (as := [.int v1, .int v3, .int v5, .int v7, .int v9, .int v11]) (st := []) (mc' := 0) (ms' := 0) C dL_law_1188 iv_L_115 (by decide) e14 rfl (Nat.le_of_ble_eq_true rfl) (c_X10_span 48 v1 v3 v5 v7 v9 v11 (by omega) e16) (fun v_ h_ n_ q_ => ?_)
  obtain ⟨q1_, q2_, q3_⟩ := q_
  subst v_; subst h_; subst n_
  show WW W0 G 4 _ _ _ 1191 [some (.ref 0), some (.ref 48), some (.ref 159), some (.int l3)] [.int v15.1] v15.2 n _ _
  refine rr_aload_n (i := 2) C dL_law_1191 rfl rfl ?_
  refine rr_aload_n (i := 0) C dL_law_1192 rfl rfl ?_
  refine rr_iload_n (i := 3) C dL_law_1193 rfl rfl ?_
  refine rr_iconst (v := 1) C dL_law_1194 (by decide) ?_
  refine rr_iadd C dL_law_1195 ?_
  replace hr := Option.bind_eq_some_iff.mp hr
  obtain ⟨v17, e18, hr⟩ := hr
  refine rr_ldI C dL_law_1196 e18 ?_
  refine rr_aload_n (i := 0) C dL_law_1197 rfl rfl ?_
  refine rr_iload_n (i := 3) C dL_law_1198 rfl rfl ?_
  refine rr_iconst (v := 2) C dL_law_1199 (by decide) ?_
  refine rr_iadd C dL_law_1200 ?_
  replace hr := Option.bind_eq_some_iff.mp hr
  obtain ⟨v19, e20, hr⟩ := hr
  refine rr_ldI C dL_law_1201 e20 ?_
  refine rr_aload_n (i := 0) C dL_law_1202 rfl rfl ?_
  refine rr_iload_n (i := 3) C dL_law_1203 rfl rfl ?_
  refine rr_iconst (v := 3) C dL_law_1204 (by decide) ?_
  refine rr_iadd C dL_law_1205 ?_
  replace hr := Option.bind_eq_some_iff.mp hr
  obtain ⟨v21, e22, hr⟩ := hr
  refine rr_ldI C dL_law_1206 e22 ?_
  refine rr_aload_n (i := 0) C dL_law_1207 rfl rfl ?_
  refine rr_iload_n (i := 3) C dL_law_1208 rfl rfl ?_
  refine rr_iconst (v := 4) C dL_law_1209 (by decide) ?_
  refine rr_iadd C dL_law_1210 ?_
  replace hr := Option.bind_eq_some_iff.mp hr
  obtain ⟨v23, e24, hr⟩ := hr
  refine rr_ldI C dL_law_1211 e24 ?_
  refine rr_aload_n (i := 0) C dL_law_1212 rfl rfl ?_
  refine rr_iload_n (i := 3) C dL_law_1213 rfl rfl ?_
  refine rr_iconst (v := 5) C dL_law_1214 (by decide) ?_
  refine rr_iadd C dL_law_1215 ?_
  replace hr := Option.bind_eq_some_iff.mp hr
  obtain ⟨v25, e26, hr⟩ := hr
  refine rr_ldI C dL_law_1216 e26 ?_
  refine rr_aload_n (i := 0) C dL_law_1217 rfl rfl ?_
  refine rr_iload_n (i := 3) C dL_law_1218 rfl rfl ?_
  refine rr_bipush (v := 6) C dL_law_1219 (by decide) ?_
  refine rr_iadd C dL_law_1221 ?_
  replace hr := Option.bind_eq_some_iff.mp hr
  obtain ⟨v27, e28, hr⟩ := hr
  refine rr_ldI C dL_law_1222 e28 ?_
  replace hr := Option.bind_eq_some_iff.mp hr
  obtain ⟨u29, e30, hr⟩ := hr
  replace hr := Option.bind_eq_some_iff.mp hr
  obtain ⟨v31, e32, hr⟩ := hr
  refine rr_callVq (as := [.int v17, .int v19, .int v21, .int v23, .int v25, .int v27]) (st := [.int v15.1]) (mc' := 0) (ms' := 0) C dL_law_1223 iv_L_119 (by decide) e30 rfl (Nat.le_of_ble_eq_true rfl) (c_X11_span 159 v17 v19 v21 v23 v25 v27 (by omega) e32) (fun v_ h_ n_ q_ => ?_)
  obtain ⟨q1_, q2_, q3_⟩ := q_
  subst v_; subst h_; subst n_
  show WW W0 G 4 _ _ _ 1226 [some (.ref 0), some (.ref 48), some (.ref 159), some (.int l3)] [.int v31.1, .int v15.1] v31.2 n _ _
  refine rr_icmp_eq (tgt := 1550) C dL_law_1226 (by decide) (fun c1226_ => ?_) (fun c1226_ => ?_)
  · replace hr := (if_pos c1226_).symm.trans hr
    obtain rfl := Option.some.inj hr
    exact hx0 (show n ≤ n from by omega)
  · replace hr := (if_neg c1226_).symm.trans hr
    cases hr
def st_law_24 (K : Nat) (h : mm_H) (n : Nat) (l3 : Int32) (kc ks : Nat) : Option (mm_H × Nat × Nat × Nat) :=
  (ldI h n 0 (l3 + 1)).bind fun v1 =>
  (ldI h n 0 (l3 + 2)).bind fun v3 =>
  (ldI h n 0 (l3 + 3)).bind fun v5 =>
  (ckq h n 48 9).bind fun u7 =>
  (q_X10_moves K h n 48 v1 v3 v5).bind fun v9 =>
  (ldI v9.2 n 0 (l3 + 1)).bind fun v11 =>
  (ldI v9.2 n 0 (l3 + 2)).bind fun v13 =>
  (ldI v9.2 n 0 (l3 + 3)).bind fun v15 =>
  (ckq v9.2 n 159 10).bind fun u17 =>
  (q_X11_moves K v9.2 n 159 v11 v13 v15).bind fun v19 =>
  if v9.1 = v19.1 then
    some (v19.2, n, kc, ks)
  else
  none
set_option maxRecDepth 100000 in
set_option maxHeartbeats 4000000 in
theorem b_law_24 {K : Nat} {nm_ : String} {W0 : mm_X} {G : mm_G} {Q_ : State → Prop} {h : mm_H} {n kc ks : Nat} (C : mm_C W0 G cL_law yL_law.cls 4 600000 7302250 (some .boolean) 300 nm_) (hn : 160 ≤ n) (l3 : Int32) {r_ : mm_H × Nat × Nat × Nat} (hr : st_law_24 K h n l3 kc ks = some r_) (hx0 : n ≤ r_.2.1 → WW W0 G 4 600000 7302250 Q_ 1550 [some (.ref 0), some (.ref 48), some (.ref 159), some (.int l3)] [] r_.1 r_.2.1 r_.2.2.1 r_.2.2.2) : WW W0 G 4 600000 7302250 Q_ 1231 [some (.ref 0), some (.ref 48), some (.ref 159), some (.int l3)] [] h n kc ks := by
  unfold st_law_24 at hr
  refine rr_aload_n (i := 1) C dL_law_1231 rfl rfl ?_
  refine rr_aload_n (i := 0) C dL_law_1232 rfl rfl ?_
  refine rr_iload_n (i := 3) C dL_law_1233 rfl rfl ?_
  refine rr_iconst (v := 1) C dL_law_1234 (by decide) ?_
  refine rr_iadd C dL_law_1235 ?_
  replace hr := Option.bind_eq_some_iff.mp hr
  obtain ⟨v1, e2, hr⟩ := hr
  refine rr_ldI C dL_law_1236 e2 ?_
  refine rr_aload_n (i := 0) C dL_law_1237 rfl rfl ?_
  refine rr_iload_n (i := 3) C dL_law_1238 rfl rfl ?_
  refine rr_iconst (v := 2) C dL_law_1239 (by decide) ?_
  refine rr_iadd C dL_law_1240 ?_
  replace hr := Option.bind_eq_some_iff.mp hr
  obtain ⟨v3, e4, hr⟩ := hr
  refine rr_ldI C dL_law_1241 e4 ?_
  refine rr_aload_n (i := 0) C dL_law_1242 rfl rfl ?_
  refine rr_iload_n (i := 3) C dL_law_1243 rfl rfl ?_
  refine rr_iconst (v := 3) C dL_law_1244 (by decide) ?_
  refine rr_iadd C dL_law_1245 ?_
  replace hr := Option.bind_eq_some_iff.mp hr
  obtain ⟨v5, e6, hr⟩ := hr
  refine rr_ldI C dL_law_1246 e6 ?_
  replace hr := Option.bind_eq_some_iff.mp hr
  obtain ⟨u7, e8, hr⟩ := hr
  replace hr := Option.bind_eq_some_iff.mp hr
  obtain ⟨v9, e10, hr⟩ := hr
  refine rr_callVq (as := [.int v1, .int v3, .int v5]) (st := []) (mc' := 0) (ms' := 0) C dL_law_1247 iv_L_120 (by decide) e8 rfl (Nat.le_of_ble_eq_true rfl) (c_X10_moves 48 v1 v3 v5 (by omega) e10) (fun v_ h_ n_ q_ => ?_)
  obtain ⟨q1_, q2_, q3_⟩ := q_
  subst v_; subst h_; subst n_
  show WW W0 G 4 _ _ _ 1250 [some (.ref 0), some (.ref 48), some (.ref 159), some (.int l3)] [.int v9.1] v9.2 n _ _
  refine rr_aload_n (i := 2) C dL_law_1250 rfl rfl ?_
  refine rr_aload_n (i := 0) C dL_law_1251 rfl rfl ?_
  refine rr_iload_n (i := 3) C dL_law_1252 rfl rfl ?_
  refine rr_iconst (v := 1) C dL_law_1253 (by decide) ?_
  refine rr_iadd C dL_law_1254 ?_
  replace hr := Option.bind_eq_some_iff.mp hr
  obtain ⟨v11, e12, hr⟩ := hr
  refine rr_ldI C dL_law_1255 e12 ?_
  refine rr_aload_n (i := 0) C dL_law_1256 rfl rfl ?_
  refine rr_iload_n (i := 3) C dL_law_1257 rfl rfl ?_
  refine rr_iconst (v := 2) C dL_law_1258 (by decide) ?_
  refine rr_iadd C dL_law_1259 ?_
  replace hr := Option.bind_eq_some_iff.mp hr
  obtain ⟨v13, e14, hr⟩ := hr
  refine rr_ldI C dL_law_1260 e14 ?_
  refine rr_aload_n (i := 0) C dL_law_1261 rfl rfl ?_
  refine rr_iload_n (i := 3) C dL_law_1262 rfl rfl ?_
  refine rr_iconst (v := 3) C dL_law_1263 (by decide) ?_
  refine rr_iadd C dL_law_1264 ?_
  replace hr := Option.bind_eq_some_iff.mp hr
  obtain ⟨v15, e16, hr⟩ := hr
  refine rr_ldI C dL_law_1265 e16 ?_
  replace hr := Option.bind_eq_some_iff.mp hr
  obtain ⟨u17, e18, hr⟩ := hr
  replace hr := Option.bind_eq_some_iff.mp hr
  obtain ⟨v19, e20, hr⟩ := hr
  refine rr_callVq (as := [.int v11, .int v13, .int v15]) (st := [.int v9.1]) (mc' := 0) (ms' := 0) C dL_law_1266 iv_L_123 (by decide) e18 rfl (Nat.le_of_ble_eq_true rfl) (c_X11_moves 159 v11 v13 v15 (by omega) e20) (fun v_ h_ n_ q_ => ?_)
  obtain ⟨q1_, q2_, q3_⟩ := q_
  subst v_; subst h_; subst n_
  show WW W0 G 4 _ _ _ 1269 [some (.ref 0), some (.ref 48), some (.ref 159), some (.int l3)] [.int v19.1, .int v9.1] v19.2 n _ _
  refine rr_icmp_eq (tgt := 1550) C dL_law_1269 (by decide) (fun c1269_ => ?_) (fun c1269_ => ?_)
  · replace hr := (if_pos c1269_).symm.trans hr
    obtain rfl := Option.some.inj hr
    exact hx0 (show n ≤ n from by omega)
  · replace hr := (if_neg c1269_).symm.trans hr
    cases hr
def st_law_25 (K : Nat) (h : mm_H) (n : Nat) (l3 : Int32) (kc ks : Nat) : Option (mm_H × Nat × Nat × Nat) :=
  (ckq h n 48 9).bind fun u1 =>
  (q_X10_putBy K h n 48).bind fun v3 =>
  (ckq v3.2 n 159 10).bind fun u5 =>
  (q_X11_putBy K v3.2 n 159).bind fun v7 =>
  if v3.1 = v7.1 then
    some (v7.2, n, kc, ks)
  else
  none
set_option maxRecDepth 100000 in
set_option maxHeartbeats 4000000 in
theorem b_law_25 {K : Nat} {nm_ : String} {W0 : mm_X} {G : mm_G} {Q_ : State → Prop} {h : mm_H} {n kc ks : Nat} (C : mm_C W0 G cL_law yL_law.cls 4 600000 7302250 (some .boolean) 300 nm_) (hn : 160 ≤ n) (l3 : Int32) {r_ : mm_H × Nat × Nat × Nat} (hr : st_law_25 K h n l3 kc ks = some r_) (hx0 : n ≤ r_.2.1 → WW W0 G 4 600000 7302250 Q_ 1550 [some (.ref 0), some (.ref 48), some (.ref 159), some (.int l3)] [] r_.1 r_.2.1 r_.2.2.1 r_.2.2.2) : WW W0 G 4 600000 7302250 Q_ 1274 [some (.ref 0), some (.ref 48), some (.ref 159), some (.int l3)] [] h n kc ks := by
  unfold st_law_25 at hr
  refine rr_aload_n (i := 1) C dL_law_1274 rfl rfl ?_
  replace hr := Option.bind_eq_some_iff.mp hr
  obtain ⟨u1, e2, hr⟩ := hr
  replace hr := Option.bind_eq_some_iff.mp hr
  obtain ⟨v3, e4, hr⟩ := hr
  refine rr_callVq (as := []) (st := []) (mc' := 0) (ms' := 0) C dL_law_1275 iv_L_124 (by decide) e2 rfl (Nat.le_of_ble_eq_true rfl) (c_X10_putBy 48 (by omega) e4) (fun v_ h_ n_ q_ => ?_)
  obtain ⟨q1_, q2_, q3_⟩ := q_
  subst v_; subst h_; subst n_
  show WW W0 G 4 _ _ _ 1278 [some (.ref 0), some (.ref 48), some (.ref 159), some (.int l3)] [.int v3.1] v3.2 n _ _
  refine rr_aload_n (i := 2) C dL_law_1278 rfl rfl ?_
  replace hr := Option.bind_eq_some_iff.mp hr
  obtain ⟨u5, e6, hr⟩ := hr
  replace hr := Option.bind_eq_some_iff.mp hr
  obtain ⟨v7, e8, hr⟩ := hr
  refine rr_callVq (as := []) (st := [.int v3.1]) (mc' := 0) (ms' := 0) C dL_law_1279 iv_L_127 (by decide) e6 rfl (Nat.le_of_ble_eq_true rfl) (c_X11_putBy 159 (by omega) e8) (fun v_ h_ n_ q_ => ?_)
  obtain ⟨q1_, q2_, q3_⟩ := q_
  subst v_; subst h_; subst n_
  show WW W0 G 4 _ _ _ 1282 [some (.ref 0), some (.ref 48), some (.ref 159), some (.int l3)] [.int v7.1, .int v3.1] v7.2 n _ _
  refine rr_icmp_eq (tgt := 1550) C dL_law_1282 (by decide) (fun c1282_ => ?_) (fun c1282_ => ?_)
  · replace hr := (if_pos c1282_).symm.trans hr
    obtain rfl := Option.some.inj hr
    exact hx0 (show n ≤ n from by omega)
  · replace hr := (if_neg c1282_).symm.trans hr
    cases hr
def st_law_26 (K : Nat) (h : mm_H) (n : Nat) (l3 : Int32) (kc ks : Nat) : Option (mm_H × Nat × Nat × Nat) :=
  (ldI h n 0 (l3 + 1)).bind fun v1 =>
  (ldI h n 0 (l3 + 2)).bind fun v3 =>
  (ckq h n 48 9).bind fun u5 =>
  (q_X10_borne K h n 48 v1 v3).bind fun v7 =>
  (ldI v7.2 n 0 (l3 + 1)).bind fun v9 =>
  (ldI v7.2 n 0 (l3 + 2)).bind fun v11 =>
  (ckq v7.2 n 159 10).bind fun u13 =>
  (q_X11_borne K v7.2 n 159 v9 v11).bind fun v15 =>
  if (lg_cmp v7.1 v15.1) = 0 then
    some (v15.2, n, kc, ks)
  else
  none
set_option maxRecDepth 100000 in
set_option maxHeartbeats 4000000 in
theorem b_law_26 {K : Nat} {nm_ : String} {W0 : mm_X} {G : mm_G} {Q_ : State → Prop} {h : mm_H} {n kc ks : Nat} (C : mm_C W0 G cL_law yL_law.cls 4 600000 7302250 (some .boolean) 300 nm_) (hn : 160 ≤ n) (l3 : Int32) {r_ : mm_H × Nat × Nat × Nat} (hr : st_law_26 K h n l3 kc ks = some r_) (hx0 : n ≤ r_.2.1 → WW W0 G 4 600000 7302250 Q_ 1550 [some (.ref 0), some (.ref 48), some (.ref 159), some (.int l3)] [] r_.1 r_.2.1 r_.2.2.1 r_.2.2.2) : WW W0 G 4 600000 7302250 Q_ 1287 [some (.ref 0), some (.ref 48), some (.ref 159), some (.int l3)] [] h n kc ks := by
  unfold st_law_26 at hr
  refine rr_aload_n (i := 1) C dL_law_1287 rfl rfl ?_
  refine rr_aload_n (i := 0) C dL_law_1288 rfl rfl ?_
  refine rr_iload_n (i := 3) C dL_law_1289 rfl rfl ?_
  refine rr_iconst (v := 1) C dL_law_1290 (by decide) ?_
  refine rr_iadd C dL_law_1291 ?_
  replace hr := Option.bind_eq_some_iff.mp hr
  obtain ⟨v1, e2, hr⟩ := hr
  refine rr_ldI C dL_law_1292 e2 ?_
  refine rr_aload_n (i := 0) C dL_law_1293 rfl rfl ?_
  refine rr_iload_n (i := 3) C dL_law_1294 rfl rfl ?_
  refine rr_iconst (v := 2) C dL_law_1295 (by decide) ?_
  refine rr_iadd C dL_law_1296 ?_
  replace hr := Option.bind_eq_some_iff.mp hr
  obtain ⟨v3, e4, hr⟩ := hr
  refine rr_ldI C dL_law_1297 e4 ?_
  replace hr := Option.bind_eq_some_iff.mp hr
  obtain ⟨u5, e6, hr⟩ := hr
  replace hr := Option.bind_eq_some_iff.mp hr
  obtain ⟨v7, e8, hr⟩ := hr
  refine rr_callVq (as := [.int v1, .int v3]) (st := []) (mc' := 0) (ms' := 0) C dL_law_1298 iv_L_128 (by decide) e6 rfl (Nat.le_of_ble_eq_true rfl) (c_X10_borne 48 v1 v3 (by omega) e8) (fun v_ h_ n_ q_ => ?_)
  obtain ⟨q1_, q2_, q3_⟩ := q_
  subst v_; subst h_; subst n_
  show WW W0 G 4 _ _ _ 1301 [some (.ref 0), some (.ref 48), some (.ref 159), some (.int l3)] [.long v7.1] v7.2 n _ _
  refine rr_aload_n (i := 2) C dL_law_1301 rfl rfl ?_
  refine rr_aload_n (i := 0) C dL_law_1302 rfl rfl ?_
  refine rr_iload_n (i := 3) C dL_law_1303 rfl rfl ?_
  refine rr_iconst (v := 1) C dL_law_1304 (by decide) ?_
  refine rr_iadd C dL_law_1305 ?_
  replace hr := Option.bind_eq_some_iff.mp hr
  obtain ⟨v9, e10, hr⟩ := hr
  refine rr_ldI C dL_law_1306 e10 ?_
  refine rr_aload_n (i := 0) C dL_law_1307 rfl rfl ?_
  refine rr_iload_n (i := 3) C dL_law_1308 rfl rfl ?_
  refine rr_iconst (v := 2) C dL_law_1309 (by decide) ?_
  refine rr_iadd C dL_law_1310 ?_
  replace hr := Option.bind_eq_some_iff.mp hr
  obtain ⟨v11, e12, hr⟩ := hr
  refine rr_ldI C dL_law_1311 e12 ?_
  replace hr := Option.bind_eq_some_iff.mp hr
  obtain ⟨u13, e14, hr⟩ := hr
  replace hr := Option.bind_eq_some_iff.mp hr
  obtain ⟨v15, e16, hr⟩ := hr
  refine rr_callVq (as := [.int v9, .int v11]) (st := [.long v7.1]) (mc' := 0) (ms' := 0) C dL_law_1312 iv_L_131 (by decide) e14 rfl (Nat.le_of_ble_eq_true rfl) (c_X11_borne 159 v9 v11 (by omega) e16) (fun v_ h_ n_ q_ => ?_)
  obtain ⟨q1_, q2_, q3_⟩ := q_
  subst v_; subst h_; subst n_
  show WW W0 G 4 _ _ _ 1315 [some (.ref 0), some (.ref 48), some (.ref 159), some (.int l3)] [.long v15.1, .long v7.1] v15.2 n _ _
  refine rr_lcmp C dL_law_1315 ?_
  refine rr_if_eq (tgt := 1550) C dL_law_1316 (by decide) (fun c1316_ => ?_) (fun c1316_ => ?_)
  · replace hr := (if_pos c1316_).symm.trans hr
    obtain rfl := Option.some.inj hr
    exact hx0 (show n ≤ n from by omega)
  · replace hr := (if_neg c1316_).symm.trans hr
    cases hr
def st_law_27 (K : Nat) (h : mm_H) (n : Nat) (l3 : Int32) (kc ks : Nat) : Option (mm_H × Nat × Nat × Nat) :=
  (ldI h n 0 (l3 + 1)).bind fun v1 =>
  (ldI h n 0 (l3 + 2)).bind fun v3 =>
  (ckq h n 48 9).bind fun u5 =>
  (q_X10_best K h n 48 v1 v3).bind fun v7 =>
  (ldI v7.2 n 0 (l3 + 1)).bind fun v9 =>
  (ldI v7.2 n 0 (l3 + 2)).bind fun v11 =>
  (ckq v7.2 n 159 10).bind fun u13 =>
  (q_X11_best K v7.2 n 159 v9 v11).bind fun v15 =>
  if v7.1 = v15.1 then
    some (v15.2, n, kc, ks)
  else
  none
set_option maxRecDepth 100000 in
set_option maxHeartbeats 4000000 in
theorem b_law_27 {K : Nat} {nm_ : String} {W0 : mm_X} {G : mm_G} {Q_ : State → Prop} {h : mm_H} {n kc ks : Nat} (C : mm_C W0 G cL_law yL_law.cls 4 600000 7302250 (some .boolean) 300 nm_) (hn : 160 ≤ n) (l3 : Int32) {r_ : mm_H × Nat × Nat × Nat} (hr : st_law_27 K h n l3 kc ks = some r_) (hx0 : n ≤ r_.2.1 → WW W0 G 4 600000 7302250 Q_ 1550 [some (.ref 0), some (.ref 48), some (.ref 159), some (.int l3)] [] r_.1 r_.2.1 r_.2.2.1 r_.2.2.2) : WW W0 G 4 600000 7302250 Q_ 1321 [some (.ref 0), some (.ref 48), some (.ref 159), some (.int l3)] [] h n kc ks := by
  unfold st_law_27 at hr
  refine rr_aload_n (i := 1) C dL_law_1321 rfl rfl ?_
  refine rr_aload_n (i := 0) C dL_law_1322 rfl rfl ?_
  refine rr_iload_n (i := 3) C dL_law_1323 rfl rfl ?_
  refine rr_iconst (v := 1) C dL_law_1324 (by decide) ?_
  refine rr_iadd C dL_law_1325 ?_
  replace hr := Option.bind_eq_some_iff.mp hr
  obtain ⟨v1, e2, hr⟩ := hr
  refine rr_ldI C dL_law_1326 e2 ?_
  refine rr_aload_n (i := 0) C dL_law_1327 rfl rfl ?_
  refine rr_iload_n (i := 3) C dL_law_1328 rfl rfl ?_
  refine rr_iconst (v := 2) C dL_law_1329 (by decide) ?_
  refine rr_iadd C dL_law_1330 ?_
  replace hr := Option.bind_eq_some_iff.mp hr
  obtain ⟨v3, e4, hr⟩ := hr
  refine rr_ldI C dL_law_1331 e4 ?_
  replace hr := Option.bind_eq_some_iff.mp hr
  obtain ⟨u5, e6, hr⟩ := hr
  replace hr := Option.bind_eq_some_iff.mp hr
  obtain ⟨v7, e8, hr⟩ := hr
  refine rr_callVq (as := [.int v1, .int v3]) (st := []) (mc' := 0) (ms' := 0) C dL_law_1332 iv_L_132 (by decide) e6 rfl (Nat.le_of_ble_eq_true rfl) (c_X10_best 48 v1 v3 (by omega) e8) (fun v_ h_ n_ q_ => ?_)
  obtain ⟨q1_, q2_, q3_⟩ := q_
  subst v_; subst h_; subst n_
  show WW W0 G 4 _ _ _ 1335 [some (.ref 0), some (.ref 48), some (.ref 159), some (.int l3)] [.int v7.1] v7.2 n _ _
  refine rr_aload_n (i := 2) C dL_law_1335 rfl rfl ?_
  refine rr_aload_n (i := 0) C dL_law_1336 rfl rfl ?_
  refine rr_iload_n (i := 3) C dL_law_1337 rfl rfl ?_
  refine rr_iconst (v := 1) C dL_law_1338 (by decide) ?_
  refine rr_iadd C dL_law_1339 ?_
  replace hr := Option.bind_eq_some_iff.mp hr
  obtain ⟨v9, e10, hr⟩ := hr
  refine rr_ldI C dL_law_1340 e10 ?_
  refine rr_aload_n (i := 0) C dL_law_1341 rfl rfl ?_
  refine rr_iload_n (i := 3) C dL_law_1342 rfl rfl ?_
  refine rr_iconst (v := 2) C dL_law_1343 (by decide) ?_
  refine rr_iadd C dL_law_1344 ?_
  replace hr := Option.bind_eq_some_iff.mp hr
  obtain ⟨v11, e12, hr⟩ := hr
  refine rr_ldI C dL_law_1345 e12 ?_
  replace hr := Option.bind_eq_some_iff.mp hr
  obtain ⟨u13, e14, hr⟩ := hr
  replace hr := Option.bind_eq_some_iff.mp hr
  obtain ⟨v15, e16, hr⟩ := hr
  refine rr_callVq (as := [.int v9, .int v11]) (st := [.int v7.1]) (mc' := 0) (ms' := 0) C dL_law_1346 iv_L_135 (by decide) e14 rfl (Nat.le_of_ble_eq_true rfl) (c_X11_best 159 v9 v11 (by omega) e16) (fun v_ h_ n_ q_ => ?_)
  obtain ⟨q1_, q2_, q3_⟩ := q_
  subst v_; subst h_; subst n_
  show WW W0 G 4 _ _ _ 1349 [some (.ref 0), some (.ref 48), some (.ref 159), some (.int l3)] [.int v15.1, .int v7.1] v15.2 n _ _
  refine rr_icmp_eq (tgt := 1550) C dL_law_1349 (by decide) (fun c1349_ => ?_) (fun c1349_ => ?_)
  · replace hr := (if_pos c1349_).symm.trans hr
    obtain rfl := Option.some.inj hr
    exact hx0 (show n ≤ n from by omega)
  · replace hr := (if_neg c1349_).symm.trans hr
    cases hr
def st_law_28 (K : Nat) (h : mm_H) (n : Nat) (l3 : Int32) (kc ks : Nat) : Option (mm_H × Nat × Nat × Nat) :=
  (ldI h n 0 (l3 + 1)).bind fun v1 =>
  (ldI h n 0 (l3 + 2)).bind fun v3 =>
  (ckq h n 48 9).bind fun u5 =>
  (q_X10_tell K h n 48 v1 v3).bind fun v7 =>
  (ldI v7.2 n 0 (l3 + 1)).bind fun v9 =>
  (ldI v7.2 n 0 (l3 + 2)).bind fun v11 =>
  (ckq v7.2 n 159 10).bind fun u13 =>
  (q_X11_tell K v7.2 n 159 v9 v11).bind fun v15 =>
  if v7.1 = v15.1 then
    some (v15.2, n, kc, ks)
  else
  none
set_option maxRecDepth 100000 in
set_option maxHeartbeats 4000000 in
theorem b_law_28 {K : Nat} {nm_ : String} {W0 : mm_X} {G : mm_G} {Q_ : State → Prop} {h : mm_H} {n kc ks : Nat} (C : mm_C W0 G cL_law yL_law.cls 4 600000 7302250 (some .boolean) 300 nm_) (hn : 160 ≤ n) (l3 : Int32) {r_ : mm_H × Nat × Nat × Nat} (hr : st_law_28 K h n l3 kc ks = some r_) (hx0 : n ≤ r_.2.1 → WW W0 G 4 600000 7302250 Q_ 1550 [some (.ref 0), some (.ref 48), some (.ref 159), some (.int l3)] [] r_.1 r_.2.1 r_.2.2.1 r_.2.2.2) : WW W0 G 4 600000 7302250 Q_ 1354 [some (.ref 0), some (.ref 48), some (.ref 159), some (.int l3)] [] h n kc ks := by
  unfold st_law_28 at hr
  refine rr_aload_n (i := 1) C dL_law_1354 rfl rfl ?_
  refine rr_aload_n (i := 0) C dL_law_1355 rfl rfl ?_
  refine rr_iload_n (i := 3) C dL_law_1356 rfl rfl ?_
  refine rr_iconst (v := 1) C dL_law_1357 (by decide) ?_
  refine rr_iadd C dL_law_1358 ?_
  replace hr := Option.bind_eq_some_iff.mp hr
  obtain ⟨v1, e2, hr⟩ := hr
  refine rr_ldI C dL_law_1359 e2 ?_
  refine rr_aload_n (i := 0) C dL_law_1360 rfl rfl ?_
  refine rr_iload_n (i := 3) C dL_law_1361 rfl rfl ?_
  refine rr_iconst (v := 2) C dL_law_1362 (by decide) ?_
  refine rr_iadd C dL_law_1363 ?_
  replace hr := Option.bind_eq_some_iff.mp hr
  obtain ⟨v3, e4, hr⟩ := hr
  refine rr_ldI C dL_law_1364 e4 ?_
  replace hr := Option.bind_eq_some_iff.mp hr
  obtain ⟨u5, e6, hr⟩ := hr
  replace hr := Option.bind_eq_some_iff.mp hr
  obtain ⟨v7, e8, hr⟩ := hr
  refine rr_callVq (as := [.int v1, .int v3]) (st := []) (mc' := 0) (ms' := 0) C dL_law_1365 iv_L_136 (by decide) e6 rfl (Nat.le_of_ble_eq_true rfl) (c_X10_tell 48 v1 v3 (by omega) e8) (fun v_ h_ n_ q_ => ?_)
  obtain ⟨q1_, q2_, q3_⟩ := q_
  subst v_; subst h_; subst n_
  show WW W0 G 4 _ _ _ 1368 [some (.ref 0), some (.ref 48), some (.ref 159), some (.int l3)] [.int v7.1] v7.2 n _ _
  refine rr_aload_n (i := 2) C dL_law_1368 rfl rfl ?_
  refine rr_aload_n (i := 0) C dL_law_1369 rfl rfl ?_
  refine rr_iload_n (i := 3) C dL_law_1370 rfl rfl ?_
  refine rr_iconst (v := 1) C dL_law_1371 (by decide) ?_
  refine rr_iadd C dL_law_1372 ?_
  replace hr := Option.bind_eq_some_iff.mp hr
  obtain ⟨v9, e10, hr⟩ := hr
  refine rr_ldI C dL_law_1373 e10 ?_
  refine rr_aload_n (i := 0) C dL_law_1374 rfl rfl ?_
  refine rr_iload_n (i := 3) C dL_law_1375 rfl rfl ?_
  refine rr_iconst (v := 2) C dL_law_1376 (by decide) ?_
  refine rr_iadd C dL_law_1377 ?_
  replace hr := Option.bind_eq_some_iff.mp hr
  obtain ⟨v11, e12, hr⟩ := hr
  refine rr_ldI C dL_law_1378 e12 ?_
  replace hr := Option.bind_eq_some_iff.mp hr
  obtain ⟨u13, e14, hr⟩ := hr
  replace hr := Option.bind_eq_some_iff.mp hr
  obtain ⟨v15, e16, hr⟩ := hr
  refine rr_callVq (as := [.int v9, .int v11]) (st := [.int v7.1]) (mc' := 0) (ms' := 0) C dL_law_1379 iv_L_140 (by decide) e14 rfl (Nat.le_of_ble_eq_true rfl) (c_X11_tell 159 v9 v11 (by omega) e16) (fun v_ h_ n_ q_ => ?_)
  obtain ⟨q1_, q2_, q3_⟩ := q_
  subst v_; subst h_; subst n_
  show WW W0 G 4 _ _ _ 1382 [some (.ref 0), some (.ref 48), some (.ref 159), some (.int l3)] [.int v15.1, .int v7.1] v15.2 n _ _
  refine rr_icmp_eq (tgt := 1550) C dL_law_1382 (by decide) (fun c1382_ => ?_) (fun c1382_ => ?_)
  · replace hr := (if_pos c1382_).symm.trans hr
    obtain rfl := Option.some.inj hr
    exact hx0 (show n ≤ n from by omega)
  · replace hr := (if_neg c1382_).symm.trans hr
    cases hr
def st_law_29 (K : Nat) (h : mm_H) (n : Nat) (l3 : Int32) (kc ks : Nat) : Option (mm_H × Nat × Nat × Nat) :=
  (ldI h n 0 (l3 + 1)).bind fun v1 =>
  (ldI h n 0 (l3 + 2)).bind fun v3 =>
  (ldI h n 0 (l3 + 3)).bind fun v5 =>
  (ckq h n 48 9).bind fun u7 =>
  (q_X10_check K h n 48 v1 v3 v5).bind fun v9 =>
  (ldI v9.2 n 0 (l3 + 1)).bind fun v11 =>
  (ldI v9.2 n 0 (l3 + 2)).bind fun v13 =>
  (ldI v9.2 n 0 (l3 + 3)).bind fun v15 =>
  (ckq v9.2 n 159 10).bind fun u17 =>
  (q_X11_check K v9.2 n 159 v11 v13 v15).bind fun v19 =>
  if v9.1 = v19.1 then
    some (v19.2, n, kc, ks)
  else
  none
set_option maxRecDepth 100000 in
set_option maxHeartbeats 4000000 in
theorem b_law_29 {K : Nat} {nm_ : String} {W0 : mm_X} {G : mm_G} {Q_ : State → Prop} {h : mm_H} {n kc ks : Nat} (C : mm_C W0 G cL_law yL_law.cls 4 600000 7302250 (some .boolean) 300 nm_) (hn : 160 ≤ n) (l3 : Int32) {r_ : mm_H × Nat × Nat × Nat} (hr : st_law_29 K h n l3 kc ks = some r_) (hx0 : n ≤ r_.2.1 → WW W0 G 4 600000 7302250 Q_ 1550 [some (.ref 0), some (.ref 48), some (.ref 159), some (.int l3)] [] r_.1 r_.2.1 r_.2.2.1 r_.2.2.2) : WW W0 G 4 600000 7302250 Q_ 1387 [some (.ref 0), some (.ref 48), some (.ref 159), some (.int l3)] [] h n kc ks := by
  unfold st_law_29 at hr
  refine rr_aload_n (i := 1) C dL_law_1387 rfl rfl ?_
  refine rr_aload_n (i := 0) C dL_law_1388 rfl rfl ?_
  refine rr_iload_n (i := 3) C dL_law_1389 rfl rfl ?_
  refine rr_iconst (v := 1) C dL_law_1390 (by decide) ?_
  refine rr_iadd C dL_law_1391 ?_
  replace hr := Option.bind_eq_some_iff.mp hr
  obtain ⟨v1, e2, hr⟩ := hr
  refine rr_ldI C dL_law_1392 e2 ?_
  refine rr_aload_n (i := 0) C dL_law_1393 rfl rfl ?_
  refine rr_iload_n (i := 3) C dL_law_1394 rfl rfl ?_
  refine rr_iconst (v := 2) C dL_law_1395 (by decide) ?_
  refine rr_iadd C dL_law_1396 ?_
  replace hr := Option.bind_eq_some_iff.mp hr
  obtain ⟨v3, e4, hr⟩ := hr
  refine rr_ldI C dL_law_1397 e4 ?_
  refine rr_aload_n (i := 0) C dL_law_1398 rfl rfl ?_
  refine rr_iload_n (i := 3) C dL_law_1399 rfl rfl ?_
  refine rr_iconst (v := 3) C dL_law_1400 (by decide) ?_
  refine rr_iadd C dL_law_1401 ?_
  replace hr := Option.bind_eq_some_iff.mp hr
  obtain ⟨v5, e6, hr⟩ := hr
  refine rr_ldI C dL_law_1402 e6 ?_
  replace hr := Option.bind_eq_some_iff.mp hr
  obtain ⟨u7, e8, hr⟩ := hr
  replace hr := Option.bind_eq_some_iff.mp hr
  obtain ⟨v9, e10, hr⟩ := hr
  refine rr_callVq (as := [.int v1, .int v3, .int v5]) (st := []) (mc' := 0) (ms' := 0) C dL_law_1403 iv_L_141 (by decide) e8 rfl (Nat.le_of_ble_eq_true rfl) (c_X10_check 48 v1 v3 v5 (by omega) e10) (fun v_ h_ n_ q_ => ?_)
  obtain ⟨q1_, q2_, q3_⟩ := q_
  subst v_; subst h_; subst n_
  show WW W0 G 4 _ _ _ 1406 [some (.ref 0), some (.ref 48), some (.ref 159), some (.int l3)] [.int v9.1] v9.2 n _ _
  refine rr_aload_n (i := 2) C dL_law_1406 rfl rfl ?_
  refine rr_aload_n (i := 0) C dL_law_1407 rfl rfl ?_
  refine rr_iload_n (i := 3) C dL_law_1408 rfl rfl ?_
  refine rr_iconst (v := 1) C dL_law_1409 (by decide) ?_
  refine rr_iadd C dL_law_1410 ?_
  replace hr := Option.bind_eq_some_iff.mp hr
  obtain ⟨v11, e12, hr⟩ := hr
  refine rr_ldI C dL_law_1411 e12 ?_
  refine rr_aload_n (i := 0) C dL_law_1412 rfl rfl ?_
  refine rr_iload_n (i := 3) C dL_law_1413 rfl rfl ?_
  refine rr_iconst (v := 2) C dL_law_1414 (by decide) ?_
  refine rr_iadd C dL_law_1415 ?_
  replace hr := Option.bind_eq_some_iff.mp hr
  obtain ⟨v13, e14, hr⟩ := hr
  refine rr_ldI C dL_law_1416 e14 ?_
  refine rr_aload_n (i := 0) C dL_law_1417 rfl rfl ?_
  refine rr_iload_n (i := 3) C dL_law_1418 rfl rfl ?_
  refine rr_iconst (v := 3) C dL_law_1419 (by decide) ?_
  refine rr_iadd C dL_law_1420 ?_
  replace hr := Option.bind_eq_some_iff.mp hr
  obtain ⟨v15, e16, hr⟩ := hr
  refine rr_ldI C dL_law_1421 e16 ?_
  replace hr := Option.bind_eq_some_iff.mp hr
  obtain ⟨u17, e18, hr⟩ := hr
  replace hr := Option.bind_eq_some_iff.mp hr
  obtain ⟨v19, e20, hr⟩ := hr
  refine rr_callVq (as := [.int v11, .int v13, .int v15]) (st := [.int v9.1]) (mc' := 0) (ms' := 0) C dL_law_1422 iv_L_144 (by decide) e18 rfl (Nat.le_of_ble_eq_true rfl) (c_X11_check 159 v11 v13 v15 (by omega) e20) (fun v_ h_ n_ q_ => ?_)
  obtain ⟨q1_, q2_, q3_⟩ := q_
  subst v_; subst h_; subst n_
  show WW W0 G 4 _ _ _ 1425 [some (.ref 0), some (.ref 48), some (.ref 159), some (.int l3)] [.int v19.1, .int v9.1] v19.2 n _ _
  refine rr_icmp_eq (tgt := 1550) C dL_law_1425 (by decide) (fun c1425_ => ?_) (fun c1425_ => ?_)
  · replace hr := (if_pos c1425_).symm.trans hr
    obtain rfl := Option.some.inj hr
    exact hx0 (show n ≤ n from by omega)
  · replace hr := (if_neg c1425_).symm.trans hr
    cases hr
def st_law_30 (K : Nat) (h : mm_H) (n : Nat) (l3 : Int32) (kc ks : Nat) : Option (mm_H × Nat × Nat × Nat) :=
  (ldI h n 0 (l3 + 1)).bind fun v1 =>
  (ldI h n 0 (l3 + 2)).bind fun v3 =>
  (ckq h n 48 9).bind fun u5 =>
  (q_X10_twice K h n 48 v1 v3).bind fun v7 =>
  (ldI h n 0 (l3 + 1)).bind fun v9 =>
  (ldI h n 0 (l3 + 2)).bind fun v11 =>
  (ckq h n 159 10).bind fun u13 =>
  (q_X11_twice K h n 159 v9 v11).bind fun v15 =>
  if v7 = v15 then
    some (h, n, kc, ks)
  else
  none
set_option maxRecDepth 100000 in
set_option maxHeartbeats 4000000 in
theorem b_law_30 {K : Nat} {nm_ : String} {W0 : mm_X} {G : mm_G} {Q_ : State → Prop} {h : mm_H} {n kc ks : Nat} (C : mm_C W0 G cL_law yL_law.cls 4 600000 7302250 (some .boolean) 300 nm_) (hn : 160 ≤ n) (l3 : Int32) {r_ : mm_H × Nat × Nat × Nat} (hr : st_law_30 K h n l3 kc ks = some r_) (hx0 : n ≤ r_.2.1 → WW W0 G 4 600000 7302250 Q_ 1550 [some (.ref 0), some (.ref 48), some (.ref 159), some (.int l3)] [] r_.1 r_.2.1 r_.2.2.1 r_.2.2.2) : WW W0 G 4 600000 7302250 Q_ 1430 [some (.ref 0), some (.ref 48), some (.ref 159), some (.int l3)] [] h n kc ks := by
  unfold st_law_30 at hr
  refine rr_aload_n (i := 1) C dL_law_1430 rfl rfl ?_
  refine rr_aload_n (i := 0) C dL_law_1431 rfl rfl ?_
  refine rr_iload_n (i := 3) C dL_law_1432 rfl rfl ?_
  refine rr_iconst (v := 1) C dL_law_1433 (by decide) ?_
  refine rr_iadd C dL_law_1434 ?_
  replace hr := Option.bind_eq_some_iff.mp hr
  obtain ⟨v1, e2, hr⟩ := hr
  refine rr_ldI C dL_law_1435 e2 ?_
  refine rr_aload_n (i := 0) C dL_law_1436 rfl rfl ?_
  refine rr_iload_n (i := 3) C dL_law_1437 rfl rfl ?_
  refine rr_iconst (v := 2) C dL_law_1438 (by decide) ?_
  refine rr_iadd C dL_law_1439 ?_
  replace hr := Option.bind_eq_some_iff.mp hr
  obtain ⟨v3, e4, hr⟩ := hr
  refine rr_ldI C dL_law_1440 e4 ?_
  replace hr := Option.bind_eq_some_iff.mp hr
  obtain ⟨u5, e6, hr⟩ := hr
  replace hr := Option.bind_eq_some_iff.mp hr
  obtain ⟨v7, e8, hr⟩ := hr
  refine rr_callVq (as := [.int v1, .int v3]) (st := []) (mc' := 0) (ms' := 0) C dL_law_1441 iv_L_145 (by decide) e6 rfl (Nat.le_of_ble_eq_true rfl) (c_X10_twice 48 v1 v3 (by omega) e8) (fun v_ h_ n_ q_ => ?_)
  obtain ⟨q1_, q2_, q3_⟩ := q_
  subst v_; subst h_; subst n_
  show WW W0 G 4 _ _ _ 1444 [some (.ref 0), some (.ref 48), some (.ref 159), some (.int l3)] [.int v7] h n _ _
  refine rr_aload_n (i := 2) C dL_law_1444 rfl rfl ?_
  refine rr_aload_n (i := 0) C dL_law_1445 rfl rfl ?_
  refine rr_iload_n (i := 3) C dL_law_1446 rfl rfl ?_
  refine rr_iconst (v := 1) C dL_law_1447 (by decide) ?_
  refine rr_iadd C dL_law_1448 ?_
  replace hr := Option.bind_eq_some_iff.mp hr
  obtain ⟨v9, e10, hr⟩ := hr
  refine rr_ldI C dL_law_1449 e10 ?_
  refine rr_aload_n (i := 0) C dL_law_1450 rfl rfl ?_
  refine rr_iload_n (i := 3) C dL_law_1451 rfl rfl ?_
  refine rr_iconst (v := 2) C dL_law_1452 (by decide) ?_
  refine rr_iadd C dL_law_1453 ?_
  replace hr := Option.bind_eq_some_iff.mp hr
  obtain ⟨v11, e12, hr⟩ := hr
  refine rr_ldI C dL_law_1454 e12 ?_
  replace hr := Option.bind_eq_some_iff.mp hr
  obtain ⟨u13, e14, hr⟩ := hr
  replace hr := Option.bind_eq_some_iff.mp hr
  obtain ⟨v15, e16, hr⟩ := hr
  refine rr_callVq (as := [.int v9, .int v11]) (st := [.int v7]) (mc' := 0) (ms' := 0) C dL_law_1455 iv_L_148 (by decide) e14 rfl (Nat.le_of_ble_eq_true rfl) (c_X11_twice 159 v9 v11 (by omega) e16) (fun v_ h_ n_ q_ => ?_)
  obtain ⟨q1_, q2_, q3_⟩ := q_
  subst v_; subst h_; subst n_
  show WW W0 G 4 _ _ _ 1458 [some (.ref 0), some (.ref 48), some (.ref 159), some (.int l3)] [.int v15, .int v7] h n _ _
  refine rr_icmp_eq (tgt := 1550) C dL_law_1458 (by decide) (fun c1458_ => ?_) (fun c1458_ => ?_)
  · replace hr := (if_pos c1458_).symm.trans hr
    obtain rfl := Option.some.inj hr
    exact hx0 (show n ≤ n from by omega)
  · replace hr := (if_neg c1458_).symm.trans hr
    cases hr
def st_law_31 (K : Nat) (h : mm_H) (n : Nat) (l3 : Int32) (kc ks : Nat) : Option (mm_H × Nat × Nat × Nat) :=
  (ldI h n 0 (l3 + 1)).bind fun v1 =>
  (ldI h n 0 (l3 + 2)).bind fun v3 =>
  (ldI h n 0 (l3 + 3)).bind fun v5 =>
  (ldI h n 0 (l3 + 4)).bind fun v7 =>
  (ldI h n 0 (l3 + 5)).bind fun v9 =>
  (ckq h n 48 9).bind fun u11 =>
  (q_X10_who K h n 48 v1 v3 v5 v7 v9).bind fun v13 =>
  (ldI v13.2 n 0 (l3 + 1)).bind fun v15 =>
  (ldI v13.2 n 0 (l3 + 2)).bind fun v17 =>
  (ldI v13.2 n 0 (l3 + 3)).bind fun v19 =>
  (ldI v13.2 n 0 (l3 + 4)).bind fun v21 =>
  (ldI v13.2 n 0 (l3 + 5)).bind fun v23 =>
  (ckq v13.2 n 159 10).bind fun u25 =>
  (q_X11_who K v13.2 n 159 v15 v17 v19 v21 v23).bind fun v27 =>
  if (lg_cmp v13.1 v27.1) = 0 then
    some (v27.2, n, kc, ks)
  else
  none
set_option maxRecDepth 100000 in
set_option maxHeartbeats 4000000 in
theorem b_law_31 {K : Nat} {nm_ : String} {W0 : mm_X} {G : mm_G} {Q_ : State → Prop} {h : mm_H} {n kc ks : Nat} (C : mm_C W0 G cL_law yL_law.cls 4 600000 7302250 (some .boolean) 300 nm_) (hn : 160 ≤ n) (l3 : Int32) {r_ : mm_H × Nat × Nat × Nat} (hr : st_law_31 K h n l3 kc ks = some r_) (hx0 : n ≤ r_.2.1 → WW W0 G 4 600000 7302250 Q_ 1550 [some (.ref 0), some (.ref 48), some (.ref 159), some (.int l3)] [] r_.1 r_.2.1 r_.2.2.1 r_.2.2.2) : WW W0 G 4 600000 7302250 Q_ 1463 [some (.ref 0), some (.ref 48), some (.ref 159), some (.int l3)] [] h n kc ks := by
  unfold st_law_31 at hr
  refine rr_aload_n (i := 1) C dL_law_1463 rfl rfl ?_
  refine rr_aload_n (i := 0) C dL_law_1464 rfl rfl ?_
  refine rr_iload_n (i := 3) C dL_law_1465 rfl rfl ?_
  refine rr_iconst (v := 1) C dL_law_1466 (by decide) ?_
  refine rr_iadd C dL_law_1467 ?_
  replace hr := Option.bind_eq_some_iff.mp hr
  obtain ⟨v1, e2, hr⟩ := hr
  refine rr_ldI C dL_law_1468 e2 ?_
  refine rr_aload_n (i := 0) C dL_law_1469 rfl rfl ?_
  refine rr_iload_n (i := 3) C dL_law_1470 rfl rfl ?_
  refine rr_iconst (v := 2) C dL_law_1471 (by decide) ?_
  refine rr_iadd C dL_law_1472 ?_
  replace hr := Option.bind_eq_some_iff.mp hr
  obtain ⟨v3, e4, hr⟩ := hr
  refine rr_ldI C dL_law_1473 e4 ?_
  refine rr_aload_n (i := 0) C dL_law_1474 rfl rfl ?_
  refine rr_iload_n (i := 3) C dL_law_1475 rfl rfl ?_
  refine rr_iconst (v := 3) C dL_law_1476 (by decide) ?_
  refine rr_iadd C dL_law_1477 ?_
  replace hr := Option.bind_eq_some_iff.mp hr
  obtain ⟨v5, e6, hr⟩ := hr
  refine rr_ldI C dL_law_1478 e6 ?_
  refine rr_aload_n (i := 0) C dL_law_1479 rfl rfl ?_
  refine rr_iload_n (i := 3) C dL_law_1480 rfl rfl ?_
  refine rr_iconst (v := 4) C dL_law_1481 (by decide) ?_
  refine rr_iadd C dL_law_1482 ?_
  replace hr := Option.bind_eq_some_iff.mp hr
  obtain ⟨v7, e8, hr⟩ := hr
  refine rr_ldI C dL_law_1483 e8 ?_
  refine rr_aload_n (i := 0) C dL_law_1484 rfl rfl ?_
  refine rr_iload_n (i := 3) C dL_law_1485 rfl rfl ?_
  refine rr_iconst (v := 5) C dL_law_1486 (by decide) ?_
  refine rr_iadd C dL_law_1487 ?_
  replace hr := Option.bind_eq_some_iff.mp hr
  obtain ⟨v9, e10, hr⟩ := hr
  refine rr_ldI C dL_law_1488 e10 ?_
  replace hr := Option.bind_eq_some_iff.mp hr
  obtain ⟨u11, e12, hr⟩ := hr
  replace hr := Option.bind_eq_some_iff.mp hr
  obtain ⟨v13, e14, hr⟩ := hr
  refine rr_callVq (as := [.int v1, .int v3, .int v5, .int v7, .int v9]) (st := []) (mc' := 0) (ms' := 0) C dL_law_1489 iv_L_149 (by decide) e12 rfl (Nat.le_of_ble_eq_true rfl) (c_X10_who 48 v1 v3 v5 v7 v9 (by omega) e14) (fun v_ h_ n_ q_ => ?_)
  obtain ⟨q1_, q2_, q3_⟩ := q_
  subst v_; subst h_; subst n_
  show WW W0 G 4 _ _ _ 1492 [some (.ref 0), some (.ref 48), some (.ref 159), some (.int l3)] [.long v13.1] v13.2 n _ _
  refine rr_aload_n (i := 2) C dL_law_1492 rfl rfl ?_
  refine rr_aload_n (i := 0) C dL_law_1493 rfl rfl ?_
  refine rr_iload_n (i := 3) C dL_law_1494 rfl rfl ?_
  refine rr_iconst (v := 1) C dL_law_1495 (by decide) ?_
  refine rr_iadd C dL_law_1496 ?_
  replace hr := Option.bind_eq_some_iff.mp hr
  obtain ⟨v15, e16, hr⟩ := hr
  refine rr_ldI C dL_law_1497 e16 ?_
  refine rr_aload_n (i := 0) C dL_law_1498 rfl rfl ?_
  refine rr_iload_n (i := 3) C dL_law_1499 rfl rfl ?_
  refine rr_iconst (v := 2) C dL_law_1500 (by decide) ?_
  refine rr_iadd C dL_law_1501 ?_
  replace hr := Option.bind_eq_some_iff.mp hr
  obtain ⟨v17, e18, hr⟩ := hr
  refine rr_ldI C dL_law_1502 e18 ?_
  refine rr_aload_n (i := 0) C dL_law_1503 rfl rfl ?_
  refine rr_iload_n (i := 3) C dL_law_1504 rfl rfl ?_
  refine rr_iconst (v := 3) C dL_law_1505 (by decide) ?_
  refine rr_iadd C dL_law_1506 ?_
  replace hr := Option.bind_eq_some_iff.mp hr
  obtain ⟨v19, e20, hr⟩ := hr
  refine rr_ldI C dL_law_1507 e20 ?_
  refine rr_aload_n (i := 0) C dL_law_1508 rfl rfl ?_
  refine rr_iload_n (i := 3) C dL_law_1509 rfl rfl ?_
  refine rr_iconst (v := 4) C dL_law_1510 (by decide) ?_
  refine rr_iadd C dL_law_1511 ?_
  replace hr := Option.bind_eq_some_iff.mp hr
  obtain ⟨v21, e22, hr⟩ := hr
  refine rr_ldI C dL_law_1512 e22 ?_
  refine rr_aload_n (i := 0) C dL_law_1513 rfl rfl ?_
  refine rr_iload_n (i := 3) C dL_law_1514 rfl rfl ?_
  refine rr_iconst (v := 5) C dL_law_1515 (by decide) ?_
  refine rr_iadd C dL_law_1516 ?_
  replace hr := Option.bind_eq_some_iff.mp hr
  obtain ⟨v23, e24, hr⟩ := hr
  refine rr_ldI C dL_law_1517 e24 ?_
  replace hr := Option.bind_eq_some_iff.mp hr
  obtain ⟨u25, e26, hr⟩ := hr
  replace hr := Option.bind_eq_some_iff.mp hr
  obtain ⟨v27, e28, hr⟩ := hr
  refine rr_callVq (as := [.int v15, .int v17, .int v19, .int v21, .int v23]) (st := [.long v13.1]) (mc' := 0) (ms' := 0) C dL_law_1518 iv_L_153 (by decide) e26 rfl (Nat.le_of_ble_eq_true rfl) (c_X11_who 159 v15 v17 v19 v21 v23 (by omega) e28) (fun v_ h_ n_ q_ => ?_)
  obtain ⟨q1_, q2_, q3_⟩ := q_
  subst v_; subst h_; subst n_
  show WW W0 G 4 _ _ _ 1521 [some (.ref 0), some (.ref 48), some (.ref 159), some (.int l3)] [.long v27.1, .long v13.1] v27.2 n _ _
  refine rr_lcmp C dL_law_1521 ?_
  refine rr_if_eq (tgt := 1550) C dL_law_1522 (by decide) (fun c1522_ => ?_) (fun c1522_ => ?_)
  · replace hr := (if_pos c1522_).symm.trans hr
    obtain rfl := Option.some.inj hr
    exact hx0 (show n ≤ n from by omega)
  · replace hr := (if_neg c1522_).symm.trans hr
    cases hr
def st_law_32 (K : Nat) (h : mm_H) (n : Nat) (l3 : Int32) (kc ks : Nat) : Option (mm_H × Nat × Nat × Nat) :=
  (ldI h n 0 (l3 + 1)).bind fun v1 =>
  (ckq h n 48 9).bind fun u3 =>
  (q_X10_count K h n 48 v1).bind fun v5 =>
  (ldI h n 0 (l3 + 1)).bind fun v7 =>
  (ckq h n 159 10).bind fun u9 =>
  (q_X11_count K h n 159 v7).bind fun v11 =>
  if v5 = v11 then
    some (h, n, kc, ks)
  else
  none
set_option maxRecDepth 100000 in
set_option maxHeartbeats 4000000 in
theorem b_law_32 {K : Nat} {nm_ : String} {W0 : mm_X} {G : mm_G} {Q_ : State → Prop} {h : mm_H} {n kc ks : Nat} (C : mm_C W0 G cL_law yL_law.cls 4 600000 7302250 (some .boolean) 300 nm_) (hn : 160 ≤ n) (l3 : Int32) {r_ : mm_H × Nat × Nat × Nat} (hr : st_law_32 K h n l3 kc ks = some r_) (hx0 : n ≤ r_.2.1 → WW W0 G 4 600000 7302250 Q_ 1550 [some (.ref 0), some (.ref 48), some (.ref 159), some (.int l3)] [] r_.1 r_.2.1 r_.2.2.1 r_.2.2.2) : WW W0 G 4 600000 7302250 Q_ 1527 [some (.ref 0), some (.ref 48), some (.ref 159), some (.int l3)] [] h n kc ks := by
  unfold st_law_32 at hr
  refine rr_aload_n (i := 1) C dL_law_1527 rfl rfl ?_
  refine rr_aload_n (i := 0) C dL_law_1528 rfl rfl ?_
  refine rr_iload_n (i := 3) C dL_law_1529 rfl rfl ?_
  refine rr_iconst (v := 1) C dL_law_1530 (by decide) ?_
  refine rr_iadd C dL_law_1531 ?_
  replace hr := Option.bind_eq_some_iff.mp hr
  obtain ⟨v1, e2, hr⟩ := hr
  refine rr_ldI C dL_law_1532 e2 ?_
  replace hr := Option.bind_eq_some_iff.mp hr
  obtain ⟨u3, e4, hr⟩ := hr
  replace hr := Option.bind_eq_some_iff.mp hr
  obtain ⟨v5, e6, hr⟩ := hr
  refine rr_callVq (as := [.int v1]) (st := []) (mc' := 0) (ms' := 0) C dL_law_1533 iv_L_154 (by decide) e4 rfl (Nat.le_of_ble_eq_true rfl) (c_X10_count 48 v1 (by omega) e6) (fun v_ h_ n_ q_ => ?_)
  obtain ⟨q1_, q2_, q3_⟩ := q_
  subst v_; subst h_; subst n_
  show WW W0 G 4 _ _ _ 1536 [some (.ref 0), some (.ref 48), some (.ref 159), some (.int l3)] [.int v5] h n _ _
  refine rr_aload_n (i := 2) C dL_law_1536 rfl rfl ?_
  refine rr_aload_n (i := 0) C dL_law_1537 rfl rfl ?_
  refine rr_iload_n (i := 3) C dL_law_1538 rfl rfl ?_
  refine rr_iconst (v := 1) C dL_law_1539 (by decide) ?_
  refine rr_iadd C dL_law_1540 ?_
  replace hr := Option.bind_eq_some_iff.mp hr
  obtain ⟨v7, e8, hr⟩ := hr
  refine rr_ldI C dL_law_1541 e8 ?_
  replace hr := Option.bind_eq_some_iff.mp hr
  obtain ⟨u9, e10, hr⟩ := hr
  replace hr := Option.bind_eq_some_iff.mp hr
  obtain ⟨v11, e12, hr⟩ := hr
  refine rr_callVq (as := [.int v7]) (st := [.int v5]) (mc' := 0) (ms' := 0) C dL_law_1542 iv_L_157 (by decide) e10 rfl (Nat.le_of_ble_eq_true rfl) (c_X11_count 159 v7 (by omega) e12) (fun v_ h_ n_ q_ => ?_)
  obtain ⟨q1_, q2_, q3_⟩ := q_
  subst v_; subst h_; subst n_
  show WW W0 G 4 _ _ _ 1545 [some (.ref 0), some (.ref 48), some (.ref 159), some (.int l3)] [.int v11, .int v5] h n _ _
  refine rr_icmp_eq (tgt := 1550) C dL_law_1545 (by decide) (fun c1545_ => ?_) (fun c1545_ => ?_)
  · replace hr := (if_pos c1545_).symm.trans hr
    obtain rfl := Option.some.inj hr
    exact hx0 (show n ≤ n from by omega)
  · replace hr := (if_neg c1545_).symm.trans hr
    cases hr
def st_law (K : Nat) (h : mm_H) (n : Nat) (l3 : Int32) (kc ks : Nat) (v : Int32) : Option (mm_H × Nat × Nat × Nat) :=
  if v = 0 then st_law_0 K h n l3 kc ks else
  if v = 1 then st_law_1 K h n l3 kc ks else
  if v = 2 then st_law_2 K h n l3 kc ks else
  if v = 3 then st_law_3 K h n l3 kc ks else
  if v = 4 then st_law_4 K h n l3 kc ks else
  if v = 5 then st_law_5 K h n l3 kc ks else
  if v = 6 then st_law_6 K h n l3 kc ks else
  if v = 7 then st_law_7 K h n l3 kc ks else
  if v = 8 then st_law_8 K h n l3 kc ks else
  if v = 9 then st_law_9 K h n l3 kc ks else
  if v = 10 then st_law_10 K h n l3 kc ks else
  if v = 11 then st_law_11 K h n l3 kc ks else
  if v = 12 then st_law_12 K h n l3 kc ks else
  if v = 13 then st_law_13 K h n l3 kc ks else
  if v = 14 then st_law_14 K h n l3 kc ks else
  if v = 15 then st_law_15 K h n l3 kc ks else
  if v = 16 then st_law_16 K h n l3 kc ks else
  if v = 17 then st_law_17 K h n l3 kc ks else
  if v = 18 then st_law_18 K h n l3 kc ks else
  if v = 19 then st_law_19 K h n l3 kc ks else
  if v = 20 then st_law_20 K h n l3 kc ks else
  if v = 21 then st_law_21 K h n l3 kc ks else
  if v = 22 then st_law_22 K h n l3 kc ks else
  if v = 23 then st_law_23 K h n l3 kc ks else
  if v = 24 then st_law_24 K h n l3 kc ks else
  if v = 25 then st_law_25 K h n l3 kc ks else
  if v = 26 then st_law_26 K h n l3 kc ks else
  if v = 27 then st_law_27 K h n l3 kc ks else
  if v = 28 then st_law_28 K h n l3 kc ks else
  if v = 29 then st_law_29 K h n l3 kc ks else
  if v = 30 then st_law_30 K h n l3 kc ks else
  if v = 31 then st_law_31 K h n l3 kc ks else
  if v = 32 then st_law_32 K h n l3 kc ks else
  some (h, n, kc, ks)
def lp_law (K : Nat) : Nat → Int32 → mm_H → Nat → Nat → Nat → Option Unit
  | 0, _, _, _, _, _ => none
  | k_ + 1, l3, h, n, kc, ks =>
    (lenA h n 0 0).bind fun v1 =>
    if v1 - 7 < l3 then some () else
    (ldI h n 0 l3).bind fun v2 =>
    (st_law K h n l3 kc ks (v2 &&& 63)).bind fun r =>
    lp_law K k_ (l3 + 7) r.1 r.2.1 r.2.2.1 r.2.2.2
set_option maxRecDepth 100000 in
set_option maxHeartbeats 4000000 in
theorem w_law {K : Nat} {nm_ : String} {W0 : mm_X} {G : mm_G} {Q_ : State → Prop} (C : mm_C W0 G cL_law yL_law.cls 4 600000 7302250 (some .boolean) 300 nm_) (hx0 : ∀ (L : List (Option Value)) (h : mm_H) (n kc ks : Nat), WW W0 G 4 600000 7302250 Q_ 1556 L [] h n kc ks) : ∀ (k_ : Nat) (l3 : Int32) (h : mm_H) (n kc ks : Nat), 160 ≤ n → lp_law K k_ l3 h n kc ks = some () → WW W0 G 4 600000 7302250 Q_ 18 [some (.ref 0), some (.ref 48), some (.ref 159), some (.int l3)] [] h n kc ks := by
  intro k_
  induction k_ with
  | zero =>
    intro l3 h n kc ks hn hr
    cases hr
  | succ k_ ih_ =>
    intro l3 h n kc ks hn hr
    unfold lp_law at hr
    refine rr_iload_n (i := 3) C dL_law_18 rfl rfl ?_
    refine rr_aload_n (i := 0) C dL_law_19 rfl rfl ?_
    replace hr := Option.bind_eq_some_iff.mp hr
    obtain ⟨v1, e1, hr⟩ := hr
    refine rr_lenA C dL_law_20 e1 ?_
    refine rr_bipush (v := 7) C dL_law_21 (by decide) ?_
    refine rr_isub C dL_law_23 ?_
    refine rr_icmp_gt (tgt := 1556) C dL_law_24 (by decide) (fun c24_ => hx0 _ _ _ _ _) (fun c24_ => ?_)
    replace hr := (if_neg c24_).symm.trans hr
    refine rr_aload_n (i := 0) C dL_law_27 rfl rfl ?_
    refine rr_iload_n (i := 3) C dL_law_28 rfl rfl ?_
    replace hr := Option.bind_eq_some_iff.mp hr
    obtain ⟨v2, e2, hr⟩ := hr
    refine rr_ldI C dL_law_29 e2 ?_
    refine rr_bipush (v := 63) C dL_law_30 (by decide) ?_
    refine rr_iand C dL_law_32 ?_
    replace hr := Option.bind_eq_some_iff.mp hr
    obtain ⟨r, e3, hr⟩ := hr
    have hj : n ≤ r.2.1 → WW W0 G 4 600000 7302250 Q_ 1550 [some (.ref 0), some (.ref 48), some (.ref 159), some (.int l3)] [] r.1 r.2.1 r.2.2.1 r.2.2.2 := by
      intro hnn
      refine rr_iinc (v := l3 + 7) C dL_law_1550 rfl rfl ?_
      show WW W0 G 4 _ _ _ 1553 [some (.ref 0), some (.ref 48), some (.ref 159), some (.int (l3 + 7))] [] _ _ _ _
      refine rr_goto (tgt := 18) C dL_law_1553 (by decide) ?_
      exact ih_ _ _ _ _ _ (by omega) hr
    generalize hv : v2 &&& 63 = v3 at e3
    unfold st_law at e3
    show WW W0 G 4 _ _ _ 33 [some (.ref 0), some (.ref 48), some (.ref 159), some (.int l3)] [.int v3] _ _ _ _
    by_cases s0 : v3 = 0
    · replace e3 := (if_pos s0).symm.trans e3
      refine rr_tabIn (off := 147) (tgt := 180) C dL_law_33 (by rw [s0]; decide) (by rw [s0]; decide) (by rw [s0]; rfl) (by decide) ?_
      exact b_law_0 C hn l3 e3 hj
    replace e3 := (if_neg s0).symm.trans e3
    by_cases s1 : v3 = 1
    · replace e3 := (if_pos s1).symm.trans e3
      refine rr_tabIn (off := 170) (tgt := 203) C dL_law_33 (by rw [s1]; decide) (by rw [s1]; decide) (by rw [s1]; rfl) (by decide) ?_
      exact b_law_1 C hn l3 e3 hj
    replace e3 := (if_neg s1).symm.trans e3
    by_cases s2 : v3 = 2
    · replace e3 := (if_pos s2).symm.trans e3
      refine rr_tabIn (off := 193) (tgt := 226) C dL_law_33 (by rw [s2]; decide) (by rw [s2]; decide) (by rw [s2]; rfl) (by decide) ?_
      exact b_law_2 C hn l3 e3 hj
    replace e3 := (if_neg s2).symm.trans e3
    by_cases s3 : v3 = 3
    · replace e3 := (if_pos s3).symm.trans e3
      refine rr_tabIn (off := 246) (tgt := 279) C dL_law_33 (by rw [s3]; decide) (by rw [s3]; decide) (by rw [s3]; rfl) (by decide) ?_
      exact b_law_3 C hn l3 e3 hj
    replace e3 := (if_neg s3).symm.trans e3
    by_cases s4 : v3 = 4
    · replace e3 := (if_pos s4).symm.trans e3
      refine rr_tabIn (off := 299) (tgt := 332) C dL_law_33 (by rw [s4]; decide) (by rw [s4]; decide) (by rw [s4]; rfl) (by decide) ?_
      exact b_law_4 C hn l3 e3 hj
    replace e3 := (if_neg s4).symm.trans e3
    by_cases s5 : v3 = 5
    · replace e3 := (if_pos s5).symm.trans e3
      refine rr_tabIn (off := 342) (tgt := 375) C dL_law_33 (by rw [s5]; decide) (by rw [s5]; decide) (by rw [s5]; rfl) (by decide) ?_
      exact b_law_5 C hn l3 e3 hj
    replace e3 := (if_neg s5).symm.trans e3
    by_cases s6 : v3 = 6
    · replace e3 := (if_pos s6).symm.trans e3
      refine rr_tabIn (off := 365) (tgt := 398) C dL_law_33 (by rw [s6]; decide) (by rw [s6]; decide) (by rw [s6]; rfl) (by decide) ?_
      exact b_law_6 C hn l3 e3 hj
    replace e3 := (if_neg s6).symm.trans e3
    by_cases s7 : v3 = 7
    · replace e3 := (if_pos s7).symm.trans e3
      refine rr_tabIn (off := 418) (tgt := 451) C dL_law_33 (by rw [s7]; decide) (by rw [s7]; decide) (by rw [s7]; rfl) (by decide) ?_
      exact b_law_7 C hn l3 e3 hj
    replace e3 := (if_neg s7).symm.trans e3
    by_cases s8 : v3 = 8
    · replace e3 := (if_pos s8).symm.trans e3
      refine rr_tabIn (off := 461) (tgt := 494) C dL_law_33 (by rw [s8]; decide) (by rw [s8]; decide) (by rw [s8]; rfl) (by decide) ?_
      exact b_law_8 C hn l3 e3 hj
    replace e3 := (if_neg s8).symm.trans e3
    by_cases s9 : v3 = 9
    · replace e3 := (if_pos s9).symm.trans e3
      refine rr_tabIn (off := 524) (tgt := 557) C dL_law_33 (by rw [s9]; decide) (by rw [s9]; decide) (by rw [s9]; rfl) (by decide) ?_
      exact b_law_9 C hn l3 e3 hj
    replace e3 := (if_neg s9).symm.trans e3
    by_cases s10 : v3 = 10
    · replace e3 := (if_pos s10).symm.trans e3
      refine rr_tabIn (off := 557) (tgt := 590) C dL_law_33 (by rw [s10]; decide) (by rw [s10]; decide) (by rw [s10]; rfl) (by decide) ?_
      exact b_law_10 C hn l3 e3 hj
    replace e3 := (if_neg s10).symm.trans e3
    by_cases s11 : v3 = 11
    · replace e3 := (if_pos s11).symm.trans e3
      refine rr_tabIn (off := 580) (tgt := 613) C dL_law_33 (by rw [s11]; decide) (by rw [s11]; decide) (by rw [s11]; rfl) (by decide) ?_
      exact b_law_11 C hn l3 e3 hj
    replace e3 := (if_neg s11).symm.trans e3
    by_cases s12 : v3 = 12
    · replace e3 := (if_pos s12).symm.trans e3
      refine rr_tabIn (off := 593) (tgt := 626) C dL_law_33 (by rw [s12]; decide) (by rw [s12]; decide) (by rw [s12]; rfl) (by decide) ?_
      exact b_law_12 C hn l3 e3 hj
    replace e3 := (if_neg s12).symm.trans e3
    by_cases s13 : v3 = 13
    · replace e3 := (if_pos s13).symm.trans e3
      refine rr_tabIn (off := 626) (tgt := 659) C dL_law_33 (by rw [s13]; decide) (by rw [s13]; decide) (by rw [s13]; rfl) (by decide) ?_
      exact b_law_13 C hn l3 e3 hj
    replace e3 := (if_neg s13).symm.trans e3
    by_cases s14 : v3 = 14
    · replace e3 := (if_pos s14).symm.trans e3
      refine rr_tabIn (off := 679) (tgt := 712) C dL_law_33 (by rw [s14]; decide) (by rw [s14]; decide) (by rw [s14]; rfl) (by decide) ?_
      exact b_law_14 C hn l3 e3 hj
    replace e3 := (if_neg s14).symm.trans e3
    by_cases s15 : v3 = 15
    · replace e3 := (if_pos s15).symm.trans e3
      refine rr_tabIn (off := 732) (tgt := 765) C dL_law_33 (by rw [s15]; decide) (by rw [s15]; decide) (by rw [s15]; rfl) (by decide) ?_
      exact b_law_15 C hn l3 e3 hj
    replace e3 := (if_neg s15).symm.trans e3
    by_cases s16 : v3 = 16
    · replace e3 := (if_pos s16).symm.trans e3
      refine rr_tabIn (off := 795) (tgt := 828) C dL_law_33 (by rw [s16]; decide) (by rw [s16]; decide) (by rw [s16]; rfl) (by decide) ?_
      exact b_law_16 C hn l3 e3 hj
    replace e3 := (if_neg s16).symm.trans e3
    by_cases s17 : v3 = 17
    · replace e3 := (if_pos s17).symm.trans e3
      refine rr_tabIn (off := 829) (tgt := 862) C dL_law_33 (by rw [s17]; decide) (by rw [s17]; decide) (by rw [s17]; rfl) (by decide) ?_
      exact b_law_17 C hn l3 e3 hj
    replace e3 := (if_neg s17).symm.trans e3
    by_cases s18 : v3 = 18
    · replace e3 := (if_pos s18).symm.trans e3
      refine rr_tabIn (off := 883) (tgt := 916) C dL_law_33 (by rw [s18]; decide) (by rw [s18]; decide) (by rw [s18]; rfl) (by decide) ?_
      exact b_law_18 C hn l3 e3 hj
    replace e3 := (if_neg s18).symm.trans e3
    by_cases s19 : v3 = 19
    · replace e3 := (if_pos s19).symm.trans e3
      refine rr_tabIn (off := 927) (tgt := 960) C dL_law_33 (by rw [s19]; decide) (by rw [s19]; decide) (by rw [s19]; rfl) (by decide) ?_
      exact b_law_19 C hn l3 e3 hj
    replace e3 := (if_neg s19).symm.trans e3
    by_cases s20 : v3 = 20
    · replace e3 := (if_pos s20).symm.trans e3
      refine rr_tabIn (off := 981) (tgt := 1014) C dL_law_33 (by rw [s20]; decide) (by rw [s20]; decide) (by rw [s20]; rfl) (by decide) ?_
      exact b_law_20 C hn l3 e3 hj
    replace e3 := (if_neg s20).symm.trans e3
    by_cases s21 : v3 = 21
    · replace e3 := (if_pos s21).symm.trans e3
      refine rr_tabIn (off := 1035) (tgt := 1068) C dL_law_33 (by rw [s21]; decide) (by rw [s21]; decide) (by rw [s21]; rfl) (by decide) ?_
      exact b_law_21 C hn l3 e3 hj
    replace e3 := (if_neg s21).symm.trans e3
    by_cases s22 : v3 = 22
    · replace e3 := (if_pos s22).symm.trans e3
      refine rr_tabIn (off := 1069) (tgt := 1102) C dL_law_33 (by rw [s22]; decide) (by rw [s22]; decide) (by rw [s22]; rfl) (by decide) ?_
      exact b_law_22 C hn l3 e3 hj
    replace e3 := (if_neg s22).symm.trans e3
    by_cases s23 : v3 = 23
    · replace e3 := (if_pos s23).symm.trans e3
      refine rr_tabIn (off := 1123) (tgt := 1156) C dL_law_33 (by rw [s23]; decide) (by rw [s23]; decide) (by rw [s23]; rfl) (by decide) ?_
      exact b_law_23 C hn l3 e3 hj
    replace e3 := (if_neg s23).symm.trans e3
    by_cases s24 : v3 = 24
    · replace e3 := (if_pos s24).symm.trans e3
      refine rr_tabIn (off := 1198) (tgt := 1231) C dL_law_33 (by rw [s24]; decide) (by rw [s24]; decide) (by rw [s24]; rfl) (by decide) ?_
      exact b_law_24 C hn l3 e3 hj
    replace e3 := (if_neg s24).symm.trans e3
    by_cases s25 : v3 = 25
    · replace e3 := (if_pos s25).symm.trans e3
      refine rr_tabIn (off := 1241) (tgt := 1274) C dL_law_33 (by rw [s25]; decide) (by rw [s25]; decide) (by rw [s25]; rfl) (by decide) ?_
      exact b_law_25 C hn l3 e3 hj
    replace e3 := (if_neg s25).symm.trans e3
    by_cases s26 : v3 = 26
    · replace e3 := (if_pos s26).symm.trans e3
      refine rr_tabIn (off := 1254) (tgt := 1287) C dL_law_33 (by rw [s26]; decide) (by rw [s26]; decide) (by rw [s26]; rfl) (by decide) ?_
      exact b_law_26 C hn l3 e3 hj
    replace e3 := (if_neg s26).symm.trans e3
    by_cases s27 : v3 = 27
    · replace e3 := (if_pos s27).symm.trans e3
      refine rr_tabIn (off := 1288) (tgt := 1321) C dL_law_33 (by rw [s27]; decide) (by rw [s27]; decide) (by rw [s27]; rfl) (by decide) ?_
      exact b_law_27 C hn l3 e3 hj
    replace e3 := (if_neg s27).symm.trans e3
    by_cases s28 : v3 = 28
    · replace e3 := (if_pos s28).symm.trans e3
      refine rr_tabIn (off := 1321) (tgt := 1354) C dL_law_33 (by rw [s28]; decide) (by rw [s28]; decide) (by rw [s28]; rfl) (by decide) ?_
      exact b_law_28 C hn l3 e3 hj
    replace e3 := (if_neg s28).symm.trans e3
    by_cases s29 : v3 = 29
    · replace e3 := (if_pos s29).symm.trans e3
      refine rr_tabIn (off := 1354) (tgt := 1387) C dL_law_33 (by rw [s29]; decide) (by rw [s29]; decide) (by rw [s29]; rfl) (by decide) ?_
      exact b_law_29 C hn l3 e3 hj
    replace e3 := (if_neg s29).symm.trans e3
    by_cases s30 : v3 = 30
    · replace e3 := (if_pos s30).symm.trans e3
      refine rr_tabIn (off := 1397) (tgt := 1430) C dL_law_33 (by rw [s30]; decide) (by rw [s30]; decide) (by rw [s30]; rfl) (by decide) ?_
      exact b_law_30 C hn l3 e3 hj
    replace e3 := (if_neg s30).symm.trans e3
    by_cases s31 : v3 = 31
    · replace e3 := (if_pos s31).symm.trans e3
      refine rr_tabIn (off := 1430) (tgt := 1463) C dL_law_33 (by rw [s31]; decide) (by rw [s31]; decide) (by rw [s31]; rfl) (by decide) ?_
      exact b_law_31 C hn l3 e3 hj
    replace e3 := (if_neg s31).symm.trans e3
    by_cases s32 : v3 = 32
    · replace e3 := (if_pos s32).symm.trans e3
      refine rr_tabIn (off := 1494) (tgt := 1527) C dL_law_33 (by rw [s32]; decide) (by rw [s32]; decide) (by rw [s32]; rfl) (by decide) ?_
      exact b_law_32 C hn l3 e3 hj
    replace e3 := (if_neg s32).symm.trans e3
    refine rr_tabOut (tgt := 1550) C dL_law_33 (by have t0 : ¬ Int32.toInt v3 = 0 := (fun q => s0 (Int32.toInt_inj.mp (show Int32.toInt v3 = (0 : Int32).toInt from q))); have t1 : ¬ Int32.toInt v3 = 1 := (fun q => s1 (Int32.toInt_inj.mp (show Int32.toInt v3 = (1 : Int32).toInt from q))); have t2 : ¬ Int32.toInt v3 = 2 := (fun q => s2 (Int32.toInt_inj.mp (show Int32.toInt v3 = (2 : Int32).toInt from q))); have t3 : ¬ Int32.toInt v3 = 3 := (fun q => s3 (Int32.toInt_inj.mp (show Int32.toInt v3 = (3 : Int32).toInt from q))); have t4 : ¬ Int32.toInt v3 = 4 := (fun q => s4 (Int32.toInt_inj.mp (show Int32.toInt v3 = (4 : Int32).toInt from q))); have t5 : ¬ Int32.toInt v3 = 5 := (fun q => s5 (Int32.toInt_inj.mp (show Int32.toInt v3 = (5 : Int32).toInt from q))); have t6 : ¬ Int32.toInt v3 = 6 := (fun q => s6 (Int32.toInt_inj.mp (show Int32.toInt v3 = (6 : Int32).toInt from q))); have t7 : ¬ Int32.toInt v3 = 7 := (fun q => s7 (Int32.toInt_inj.mp (show Int32.toInt v3 = (7 : Int32).toInt from q))); have t8 : ¬ Int32.toInt v3 = 8 := (fun q => s8 (Int32.toInt_inj.mp (show Int32.toInt v3 = (8 : Int32).toInt from q))); have t9 : ¬ Int32.toInt v3 = 9 := (fun q => s9 (Int32.toInt_inj.mp (show Int32.toInt v3 = (9 : Int32).toInt from q))); have t10 : ¬ Int32.toInt v3 = 10 := (fun q => s10 (Int32.toInt_inj.mp (show Int32.toInt v3 = (10 : Int32).toInt from q))); have t11 : ¬ Int32.toInt v3 = 11 := (fun q => s11 (Int32.toInt_inj.mp (show Int32.toInt v3 = (11 : Int32).toInt from q))); have t12 : ¬ Int32.toInt v3 = 12 := (fun q => s12 (Int32.toInt_inj.mp (show Int32.toInt v3 = (12 : Int32).toInt from q))); have t13 : ¬ Int32.toInt v3 = 13 := (fun q => s13 (Int32.toInt_inj.mp (show Int32.toInt v3 = (13 : Int32).toInt from q))); have t14 : ¬ Int32.toInt v3 = 14 := (fun q => s14 (Int32.toInt_inj.mp (show Int32.toInt v3 = (14 : Int32).toInt from q))); have t15 : ¬ Int32.toInt v3 = 15 := (fun q => s15 (Int32.toInt_inj.mp (show Int32.toInt v3 = (15 : Int32).toInt from q))); have t16 : ¬ Int32.toInt v3 = 16 := (fun q => s16 (Int32.toInt_inj.mp (show Int32.toInt v3 = (16 : Int32).toInt from q))); have t17 : ¬ Int32.toInt v3 = 17 := (fun q => s17 (Int32.toInt_inj.mp (show Int32.toInt v3 = (17 : Int32).toInt from q))); have t18 : ¬ Int32.toInt v3 = 18 := (fun q => s18 (Int32.toInt_inj.mp (show Int32.toInt v3 = (18 : Int32).toInt from q))); have t19 : ¬ Int32.toInt v3 = 19 := (fun q => s19 (Int32.toInt_inj.mp (show Int32.toInt v3 = (19 : Int32).toInt from q))); have t20 : ¬ Int32.toInt v3 = 20 := (fun q => s20 (Int32.toInt_inj.mp (show Int32.toInt v3 = (20 : Int32).toInt from q))); have t21 : ¬ Int32.toInt v3 = 21 := (fun q => s21 (Int32.toInt_inj.mp (show Int32.toInt v3 = (21 : Int32).toInt from q))); have t22 : ¬ Int32.toInt v3 = 22 := (fun q => s22 (Int32.toInt_inj.mp (show Int32.toInt v3 = (22 : Int32).toInt from q))); have t23 : ¬ Int32.toInt v3 = 23 := (fun q => s23 (Int32.toInt_inj.mp (show Int32.toInt v3 = (23 : Int32).toInt from q))); have t24 : ¬ Int32.toInt v3 = 24 := (fun q => s24 (Int32.toInt_inj.mp (show Int32.toInt v3 = (24 : Int32).toInt from q))); have t25 : ¬ Int32.toInt v3 = 25 := (fun q => s25 (Int32.toInt_inj.mp (show Int32.toInt v3 = (25 : Int32).toInt from q))); have t26 : ¬ Int32.toInt v3 = 26 := (fun q => s26 (Int32.toInt_inj.mp (show Int32.toInt v3 = (26 : Int32).toInt from q))); have t27 : ¬ Int32.toInt v3 = 27 := (fun q => s27 (Int32.toInt_inj.mp (show Int32.toInt v3 = (27 : Int32).toInt from q))); have t28 : ¬ Int32.toInt v3 = 28 := (fun q => s28 (Int32.toInt_inj.mp (show Int32.toInt v3 = (28 : Int32).toInt from q))); have t29 : ¬ Int32.toInt v3 = 29 := (fun q => s29 (Int32.toInt_inj.mp (show Int32.toInt v3 = (29 : Int32).toInt from q))); have t30 : ¬ Int32.toInt v3 = 30 := (fun q => s30 (Int32.toInt_inj.mp (show Int32.toInt v3 = (30 : Int32).toInt from q))); have t31 : ¬ Int32.toInt v3 = 31 := (fun q => s31 (Int32.toInt_inj.mp (show Int32.toInt v3 = (31 : Int32).toInt from q))); have t32 : ¬ Int32.toInt v3 = 32 := (fun q => s32 (Int32.toInt_inj.mp (show Int32.toInt v3 = (32 : Int32).toInt from q))); omega) (by decide) ?_
    obtain rfl := Option.some.inj e3
    exact hj (Nat.le_refl _)
def q_law (K : Nat) (h : mm_H) : Option Unit :=
  (newO h 48 9 [.null, .null, .null, .null, .null, .int 0, .null, .int 0, .null, .null, .int 0, .null]).bind fun h1 =>
  (q_X10_init K h1 (48 + 1) 48).bind fun (h3, n4) =>
  (newO h3 n4 10 [.int 0, .int 0, .int 0, .null, .null, .null, .null, .null, .int 0, .int 0, .int 0, .null, .null, .null, .null, .null, .null, .null, .null, .null, .null, .null, .null, .null, .int 0, .int 0, .int 0, .int 0, .int 0, .int 0, .int 0, .int 0, .null, .null, .null, .null, .null, .null, .null, .null, .null, .null, .null, .null, .null, .null, .null, .null, .null, .null, .null, .null, .null, .null, .int 0, .int 0, .int 0, .int 0, .null, .null, .null, .null, .null, .null, .null, .int 0, .long 0, .null]).bind fun h8 =>
  (q_X11_init K h8 (n4 + 1) n4).bind fun (h10, n11) =>
  if n4 = 159 then lp_law K K 0 h10 n11 599815 6703324 else none
set_option maxRecDepth 100000 in
set_option maxHeartbeats 4000000 in
theorem c_law {K : Nat} {nm_ : String} {W0 : mm_X} {G : mm_G} {Q_ : State → Prop} {h : mm_H} (C : mm_C W0 G cL_law yL_law.cls 4 600000 7302250 (some .boolean) 300 nm_) (hx0 : ∀ (L : List (Option Value)) (h : mm_H) (n kc ks : Nat), WW W0 G 4 600000 7302250 Q_ 1556 L [] h n kc ks) (hr : q_law K h = some ()) : WW W0 G 4 600000 7302250 Q_ 0 [some (.ref 0), none, none, none] [] h 48 600000 7302250 := by
  unfold q_law at hr
  refine rr_cut C (kc' := 599999 + 1) (ks' := 7302238 + 12) (by omega) (by omega) ?_
  replace hr := Option.bind_eq_some_iff.mp hr
  obtain ⟨h1, e2, hr⟩ := hr
  refine rr_newq C dL_law_0 nw_L_7 e2 ?_
  show WW W0 G 4 _ _ _ 3 [some (.ref 0), none, none, none] [.ref 48] h1 (48 + 1) _ _
  refine rr_dup C dL_law_3 rfl ?_
  refine rr_cut C (kc' := 599864 + 135) (ks' := 7294220 + 8018) (by omega) (by omega) ?_
  replace hr := Option.bind_eq_some_iff.mp hr
  obtain ⟨⟨h3, n4⟩, e6, hr⟩ := hr
  dsimp only at hr
  refine rr_callI (as := []) (st := [.ref 48]) (mc' := 135) (ms' := 8018) C dL_law_4 ii_L_9 (by decide) (Nat.le_of_ble_eq_true rfl) (c_X10_init 48 (by omega) e6) (fun v_ h_ n_ q_ => ?_)
  obtain ⟨q1_, q2_, q3_, b7⟩ := q_
  subst v_; subst h_; subst n_
  try dsimp only at b7
  show WW W0 G 4 _ _ _ 7 [some (.ref 0), none, none, none] [.ref 48] h3 n4 _ _
  refine rr_astore_n (i := 1) C dL_law_7 rfl (by decide) ?_
  show WW W0 G 4 _ _ _ 8 [some (.ref 0), some (.ref 48), none, none] [] h3 n4 _ _
  refine rr_cut C (kc' := 599863 + 1) (ks' := 7294152 + 68) (by omega) (by omega) ?_
  replace hr := Option.bind_eq_some_iff.mp hr
  obtain ⟨h8, e9, hr⟩ := hr
  refine rr_newq C dL_law_8 nw_L_10 e9 ?_
  show WW W0 G 4 _ _ _ 11 [some (.ref 0), some (.ref 48), none, none] [.ref n4] h8 (n4 + 1) _ _
  refine rr_dup C dL_law_11 rfl ?_
  refine rr_cut C (kc' := 599815 + 48) (ks' := 6703324 + 590828) (by omega) (by omega) ?_
  replace hr := Option.bind_eq_some_iff.mp hr
  obtain ⟨⟨h10, n11⟩, e13, hr⟩ := hr
  dsimp only at hr
  refine rr_callI (as := []) (st := [.ref n4]) (mc' := 48) (ms' := 590828) C dL_law_12 ii_L_12 (by decide) (Nat.le_of_ble_eq_true rfl) (c_X11_init n4 (by omega) e13) (fun v_ h_ n_ q_ => ?_)
  obtain ⟨q1_, q2_, q3_, b14⟩ := q_
  subst v_; subst h_; subst n_
  try dsimp only at b14
  show WW W0 G 4 _ _ _ 15 [some (.ref 0), some (.ref 48), none, none] [.ref n4] h10 n11 _ _
  refine rr_astore_n (i := 2) C dL_law_15 rfl (by decide) ?_
  show WW W0 G 4 _ _ _ 16 [some (.ref 0), some (.ref 48), some (.ref n4), none] [] h10 n11 _ _
  refine rr_iconst (v := 0) C dL_law_16 (by decide) ?_
  refine rr_istore_n (i := 3) C dL_law_17 rfl (by decide) ?_
  show WW W0 G 4 _ _ _ 18 [some (.ref 0), some (.ref 48), some (.ref n4), some (.int 0)] [] h10 n11 _ _
  by_cases hz_ : n4 = 159
  · replace hr := (if_pos hz_).symm.trans hr
    subst hz_
    refine rr_cut C (kc' := 599815) (ks' := 6703324) (by omega) (by omega) ?_
    exact w_law C hx0 K 0 _ _ _ _ (by omega) hr
  · replace hr := (if_neg hz_).symm.trans hr
    cases hr
