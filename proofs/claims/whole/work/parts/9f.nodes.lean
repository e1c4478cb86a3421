/-! ===== the model's nodes ===== -/
section NODES
variable {K n : Nat} {h : mm_H} {b : Nat → Nat} {N : Nat}
/-- what building nodes keeps, from m nodes on -/
def NF (m : Nat) (h g : mm_H) : Prop := PS g ∧ (∀ a, a ≠ 159 → a ≠ 181 → a < 191 ∨ 196 < a → g a = h a) ∧ (∀ k, k ≠ 28 → k ≠ 54 → k ≠ 55 → k ≠ 29 → fI g 159 k = fI h 159 k ∧ fJ g 159 k = fJ h 159 k ∧ fR g 159 k = fR h 159 k) ∧ (∀ i, i ≠ 13 → iA g 181 i = iA h 181 i) ∧ ∀ a, 191 ≤ a → a ≤ 196 → ∀ i, i < 84500 + m → iA g a i = iA h a i
theorem NF.trans {m m' : Nat} {g f : mm_H} (x : NF m h g) (y : NF m' g f) (q : m ≤ m') : NF m h f := ⟨y.1, fun a h1 h2 h3 => (y.2.1 a h1 h2 h3).trans (x.2.1 a h1 h2 h3), fun k h1 h2 h3 h4 => ⟨(y.2.2.1 k h1 h2 h3 h4).1.trans (x.2.2.1 k h1 h2 h3 h4).1, (y.2.2.1 k h1 h2 h3 h4).2.1.trans (x.2.2.1 k h1 h2 h3 h4).2.1, (y.2.2.1 k h1 h2 h3 h4).2.2.trans (x.2.2.1 k h1 h2 h3 h4).2.2⟩, fun i hi => (y.2.2.2.1 i hi).trans (x.2.2.2.1 i hi), fun a h1 h2 i hi => (y.2.2.2.2 a h1 h2 i (by omega)).trans (x.2.2.2.2 a h1 h2 i hi)⟩
theorem ML.nf {g : mm_H} (x : ML h g) (m : Nat) : NF m h g := ⟨x.1, fun a q _ _ => x.2.1 a q, fun k h1 h2 h3 _ => x.2.2 k h1 h2 h3, fun i _ => by rw [iA_c (x.2.1 181 (by decide))], fun a h1 h2 i _ => by rw [iA_c (x.2.1 a (by omega))]⟩
theorem TM.nf {m : Nat} {g : mm_H} (t : TM b N h) (l : NF m h g) : TM b N g := ⟨(l.2.2.1 27 (by decide) (by decide) (by decide) (by decide)).1.trans t.1, t.2.1, fun k hk => by rw [iA_c (l.2.1 199 (by decide) (by decide) (by omega))]; exact t.2.2 k hk⟩
/-- a write into the nodes -/
theorem NF.si (c : PS h) {m a i : Nat} (ha : 191 ≤ a ∧ a ≤ 196) (hi : 84500 + m ≤ i) (x : Int32) : NF m h (mm_si h a i x) ∧ mm_si h a i x 159 = h 159 ∧ mm_si h a i x 181 = h 181 ∧ iA (mm_si h a i x) a = upd (iA h a) i x := by
  have p : PS (mm_si h a i x) ∧ iA (mm_si h a i x) a = upd (iA h a) i x := by
    rcases (by omega : a = 191 ∨ a = 192 ∨ a = 193 ∨ a = 194 ∨ a = 195 ∨ a = 196) with rfl | rfl | rfl | rfl | rfl | rfl
    · exact ⟨ps_191 c _ _, is_191 c _ _⟩
    · exact ⟨ps_192 c _ _, is_192 c _ _⟩
    · exact ⟨ps_193 c _ _, is_193 c _ _⟩
    · exact ⟨ps_194 c _ _, is_194 c _ _⟩
    · exact ⟨ps_195 c _ _, is_195 c _ _⟩
    · exact ⟨ps_196 c _ _, is_196 c _ _⟩
  have e9 : mm_si h a i x 159 = h 159 := mm_si_n (by omega)
  have e1 : mm_si h a i x 181 = h 181 := mm_si_n (by omega)
  refine ⟨⟨p.1, fun a' h1 h2 h3 => mm_si_n (by omega), fun k _ _ _ _ => ⟨fI_c e9 k, fJ_c e9 k, fR_c e9 k⟩, fun j _ => by rw [iA_c e1], fun a' h1 h2 j hj => ?_⟩, e9, e1, p.2⟩
  by_cases q : a' = a
  · subst q
    rw [p.2, upd_n (by omega)]
  · rw [iA_si_n q]
theorem st_nd (c : PS h) (hn : 208 ≤ n) {a i : Nat} (ha : 191 ≤ a ∧ a ≤ 196) (hi : i < 91000) (x : Int32) : stI h n a (ni i) x = some (mm_si h a i x) := by
  have i9 : inb (ni i) 91000 = true := ni_inb (by omega) hi
  have ti : (ni i).toNatClampNeg = i := ni_tn (by omega)
  rcases (by omega : a = 191 ∨ a = 192 ∨ a = 193 ∨ a = 194 ∨ a = 195 ∨ a = 196) with rfl | rfl | rfl | rfl | rfl | rfl
  · rw [pe_191 c hn, if_pos i9, ti]
  · rw [pe_192 c hn, if_pos i9, ti]
  · rw [pe_193 c hn, if_pos i9, ti]
  · rw [pe_194 c hn, if_pos i9, ti]
  · rw [pe_195 c hn, if_pos i9, ti]
  · rw [pe_196 c hn, if_pos i9, ti]
theorem z_nodeM (c : PS h) (hn : 208 ≤ n) {m : Nat} (em : iA h 181 13 = ni m) (hm : m < 6500) (e : Int32) : ∃ g, q_X11_node K h n 159 e = some (ni (84500 + m), g) ∧ NF m h g ∧ g 159 = h 159 ∧ iA g 181 13 = ni (m + 1) ∧ iA g 191 (84500 + m) = e ∧ iA g 192 (84500 + m) = -1 ∧ iA g 193 (84500 + m) = -1 := by
  have i13 : inb (13 : Int32) 14 = true := by decide
  have t13 : (13 : Int32).toNatClampNeg = 13 := by decide
  have ad : (84500 : Int32) + ni m = ni (84500 + m) := ni_add 84500 m
  obtain ⟨n1, a1, b1, d1⟩ := NF.si c (a := 191) ⟨by omega, by omega⟩ (Nat.le_refl (84500 + m)) e
  obtain ⟨n2, a2, b2, d2⟩ := NF.si n1.1 (a := 192) ⟨by omega, by omega⟩ (Nat.le_refl (84500 + m)) (-1)
  obtain ⟨n3, a3, b3, d3⟩ := NF.si n2.1 (a := 193) ⟨by omega, by omega⟩ (Nat.le_refl (84500 + m)) (-1)
  have f1 := st_nd c hn (a := 191) ⟨by omega, by omega⟩ (show 84500 + m < 91000 by omega) e
  have f2 := st_nd n1.1 hn (a := 192) ⟨by omega, by omega⟩ (show 84500 + m < 91000 by omega) (-1)
  have f3 := st_nd n2.1 hn (a := 193) ⟨by omega, by omega⟩ (show 84500 + m < 91000 by omega) (-1)
  have x1 : iA (mm_si (mm_si (mm_si h 191 (84500 + m) e) 192 (84500 + m) (-1)) 193 (84500 + m) (-1)) 191 (84500 + m) = e := by
    rw [iA_si_n (by decide), iA_si_n (by decide), d1, upd_s]
  have x2 : iA (mm_si (mm_si (mm_si h 191 (84500 + m) e) 192 (84500 + m) (-1)) 193 (84500 + m) (-1)) 192 (84500 + m) = -1 := by
    rw [iA_si_n (by decide), d2, upd_s]
  have x3 : iA (mm_si (mm_si (mm_si h 191 (84500 + m) e) 192 (84500 + m) (-1)) 193 (84500 + m) (-1)) 193 (84500 + m) = -1 := by
    rw [d3, upd_s]
  have em3 : iA (mm_si (mm_si (mm_si h 191 (84500 + m) e) 192 (84500 + m) (-1)) 193 (84500 + m) (-1)) 181 13 = ni m := by
    rw [iA_c (b3.trans (b2.trans b1))]
    exact em
  have nn := (n1.trans n2 (Nat.le_refl m)).trans n3 (Nat.le_refl m)
  have k9 := a3.trans (a2.trans a1)
  unfold q_X11_node
  simp only [g_159_35 c hn, Option.bind_some, ge_181 c hn, i13, t13, if_true, em, ad, g_159_45 c hn, f1, g_159_46 n1.1 hn, f2, g_159_47 n2.1 hn, f3, g_159_35 n3.1 hn, ge_181 n3.1 hn, em3, ni_1, pe_181 n3.1 hn]
  generalize mm_si (mm_si (mm_si h 191 (84500 + m) e) 192 (84500 + m) (-1)) 193 (84500 + m) (-1) = f at *
  have c4 : PS (mm_si f 181 13 (ni (m + 1))) := ps_181 nn.1 _ _
  have e9 : mm_si f 181 13 (ni (m + 1)) 159 = f 159 := mm_si_n (by decide)
  have e181 : iA (mm_si f 181 13 (ni (m + 1))) 181 = upd (iA f 181) 13 (ni (m + 1)) := is_181 nn.1 _ _
  refine ⟨_, rfl, ⟨c4, fun a h1 h2 h3 => (mm_si_n h2).trans (nn.2.1 a h1 h2 h3), fun k h1 h2 h3 h4 => ⟨(fI_c e9 k).trans (nn.2.2.1 k h1 h2 h3 h4).1, (fJ_c e9 k).trans (nn.2.2.1 k h1 h2 h3 h4).2.1, (fR_c e9 k).trans (nn.2.2.1 k h1 h2 h3 h4).2.2⟩, fun i hi => ?_, fun a h1 h2 i hi => ?_⟩, e9.trans k9, ?_, ?_, ?_, ?_⟩
  · rw [e181, upd_n hi]
    exact nn.2.2.2.1 i hi
  · rw [iA_si_n (by omega)]
    exact nn.2.2.2.2 a h1 h2 i hi
  · rw [e181, upd_s]
  · rw [iA_si_n (by decide)]; exact x1
  · rw [iA_si_n (by decide)]; exact x2
  · rw [iA_si_n (by decide)]; exact x3
/-- what a node says, its children from lo on -/
def nodeB (h : mm_H) (lo hi k q : Nat) (L : List Int32) : Prop :=
      (iA h 191 q = 3 ∧ ∃ w s v, w < 5 ∧ s < 3 ∧ v ≤ 99999 ∧ iA h 194 q = ni w ∧ iA h 195 q = (if s = 0 then 60 else if s = 1 then 62 else 61) ∧ iA h 196 q = ni v ∧ L = [cmpI w s v])
      ∨ (iA h 191 q = 2 ∧ ∃ x M, iA h 192 q = ni x ∧ nodeR h lo hi k x M ∧ L = M ++ [-1])
      ∨ (∃ e : Nat, e ≤ 1 ∧ iA h 191 q = ni e ∧ ∃ c : List (Nat × List Int32), c ≠ [] ∧ chainN h (iA h 192 q) (c.map Prod.fst) ∧ (∀ m, m ∈ c → nodeR h lo hi k m.1 m.2) ∧ L = joinT (if e = 0 then -3 else -2) (c.map Prod.snd))
theorem nodeR_B (h : mm_H) (lo hi k q : Nat) (L : List Int32) : nodeR h lo hi (k + 1) q L ↔ lo ≤ q ∧ q < hi ∧ nodeB h lo hi k q L := Iff.rfl
theorem nodeB_imp {g : mm_H} {lo hi k lo' hi' k' q : Nat} {L : List Int32} (e1 : iA g 191 q = iA h 191 q) (e2 : iA g 192 q = iA h 192 q) (e4 : iA g 194 q = iA h 194 q) (e5 : iA g 195 q = iA h 195 q) (e6 : iA g 196 q = iA h 196 q) (ch : ∀ x M, nodeR h lo hi k x M → nodeR g lo' hi' k' x M ∧ iA g 193 x = iA h 193 x) (B : nodeB h lo hi k q L) : nodeB g lo' hi' k' q L := by
  unfold nodeB at B ⊢
  rw [e1, e2, e4, e5, e6]
  rcases B with B | ⟨B1, x, M, B2, B3, B4⟩ | ⟨e, h1, h2, c, h3, h4, h5, h6⟩
  · exact Or.inl B
  · exact Or.inr (Or.inl ⟨B1, x, M, B2, (ch x M B3).1, B4⟩)
  · refine Or.inr (Or.inr ⟨e, h1, h2, c, h3, ?_, fun m hm => (ch m.1 m.2 (h5 m hm)).1, h6⟩)
    have go : ∀ (t : List (Nat × List Int32)) (x : Int32), (∀ m, m ∈ t → iA g 193 m.1 = iA h 193 m.1) → chainN h x (t.map Prod.fst) → chainN g x (t.map Prod.fst) := by
      intro t
      induction t with
      | nil => exact fun _ _ z => z
      | cons y t ih =>
        intro x hy z
        refine ⟨z.1, ?_⟩
        rw [hy y List.mem_cons_self]
        exact ih _ (fun m hm => hy m (List.mem_cons_of_mem _ hm)) z.2
    exact go c _ (fun m hm => (ch m.1 m.2 (h5 m hm)).2) h4
theorem nodeR_ag {g : mm_H} {lo hi : Nat} (e : ∀ a, 191 ≤ a → a ≤ 196 → ∀ i, lo ≤ i → i < hi → iA g a i = iA h a i) : ∀ (k q : Nat) (L : List Int32), nodeR h lo hi k q L → nodeR g lo hi k q L
  | 0, _, _, z => z
  | k + 1, q, L, ⟨h1, h2, B⟩ => ⟨h1, h2, nodeB_imp (e 191 (by omega) (by omega) q h1 h2) (e 192 (by omega) (by omega) q h1 h2) (e 194 (by omega) (by omega) q h1 h2) (e 195 (by omega) (by omega) q h1 h2) (e 196 (by omega) (by omega) q h1 h2) (fun x M z => ⟨nodeR_ag e k x M z, e 193 (by omega) (by omega) x (nodeR_in z).1 (nodeR_in z).2⟩) B⟩
theorem nodeR_wk {lo hi lo' hi' : Nat} (h1 : lo' ≤ lo) (h2 : hi ≤ hi') : ∀ (k k' q : Nat) (L : List Int32), k ≤ k' → nodeR h lo hi k q L → nodeR h lo' hi' k' q L
  | 0, _, _, _, _, z => by cases z
  | k + 1, 0, _, _, hk, _ => by omega
  | k + 1, k' + 1, q, L, hk, ⟨z1, z2, B⟩ => ⟨by omega, by omega, nodeB_imp rfl rfl rfl rfl rfl (fun x M z => ⟨nodeR_wk h1 h2 k k' x M (by omega) z, rfl⟩) B⟩
/-- a tree: its root is its first node -/
def nodeX (h : mm_H) (q hi k : Nat) (L : List Int32) : Prop := q < hi ∧ nodeB h (q + 1) hi k q L
theorem nodeX.R {q hi k : Nat} {L : List Int32} (x : nodeX h q hi k L) {lo hi' k' : Nat} (h1 : lo ≤ q) (h2 : hi ≤ hi') (h3 : k + 1 ≤ k') : nodeR h lo hi' k' q L :=
  nodeR_wk h1 h2 (k + 1) k' q L h3 ⟨Nat.le_refl q, x.1, nodeB_imp rfl rfl rfl rfl rfl (fun y M z => ⟨nodeR_wk (by omega) (Nat.le_refl hi) k k y M (Nat.le_refl k) z, rfl⟩) x.2⟩
theorem nodeX.ag {g : mm_H} {q hi k : Nat} {L : List Int32} (x : nodeX h q hi k L) (e0 : ∀ a, 191 ≤ a → a ≤ 196 → a ≠ 193 → iA g a q = iA h a q) (e : ∀ a, 191 ≤ a → a ≤ 196 → ∀ i, q < i → i < hi → iA g a i = iA h a i) : nodeX g q hi k L :=
  ⟨x.1, nodeB_imp (e0 191 (by omega) (by omega) (by omega)) (e0 192 (by omega) (by omega) (by omega)) (e0 194 (by omega) (by omega) (by omega)) (e0 195 (by omega) (by omega) (by omega)) (e0 196 (by omega) (by omega) (by omega)) (fun y M z => ⟨nodeR_ag (fun a h1 h2 i h3 h4 => e a h1 h2 i (by omega) h4) k y M z, e 193 (by omega) (by omega) y (by have := (nodeR_in z).1; omega) (nodeR_in z).2⟩) x.2⟩
theorem nodeX.wk {q hi k hi' k' : Nat} {L : List Int32} (x : nodeX h q hi k L) (h1 : hi ≤ hi') (h2 : k ≤ k') : nodeX h q hi' k' L :=
  ⟨by have := x.1; omega, nodeB_imp rfl rfl rfl rfl rfl (fun y M z => ⟨nodeR_wk (Nat.le_refl _) h1 k k' y M h2 z, rfl⟩) x.2⟩
theorem joinR_snoc (op : Int32) (x : List Int32) : ∀ t : List (List Int32), joinR op (t ++ [x]) = joinR op t ++ (x ++ [op])
  | [] => rfl
  | y :: t => by
    show y ++ op :: joinR op (t ++ [x]) = (y ++ op :: joinR op t) ++ (x ++ [op])
    rw [joinR_snoc op x t, List.append_assoc]
    rfl
theorem joinT_snoc (op : Int32) (x : List Int32) : ∀ t : List (List Int32), t ≠ [] → joinT op (t ++ [x]) = joinT op t ++ (x ++ [op])
  | [], h => absurd rfl h
  | y :: t, _ => by
    show y ++ joinR op (t ++ [x]) = (y ++ joinR op t) ++ (x ++ [op])
    rw [joinR_snoc, List.append_assoc]
/-- a chain gets one more -/
theorem chain_snoc {g : mm_H} {y x : Nat} (e : iA g 193 y = ni x) (ex : iA g 193 x = -1) : ∀ (t : List Nat) (a : Int32), (∀ z, z ∈ t → iA g 193 z = iA h 193 z) → chainN h a (t ++ [y]) → chainN g a (t ++ [y, x])
  | [], a, _, q => ⟨q.1, e, ex⟩
  | z :: t, a, hz, q => by
    refine ⟨q.1, ?_⟩
    show chainN g (iA g 193 z) (t ++ [y, x])
    rw [hz z List.mem_cons_self]
    exact chain_snoc e ex t _ (fun w hw => hz w (List.mem_cons_of_mem _ hw)) q.2
end NODES
