theorem zX_no {m pc : Nat} {L st : List zV} {h : zH} {i : Instr} {len : Nat} (hd : decode (zb m) pc = .ok (i, len)) (ha : zact m i pc len L st h = zno) : zX m pc L st h = none := by
  cases hx : zX m pc L st h with
  | none => rfl
  | some o =>
    obtain ⟨n, e⟩ := zX_some.mp hx
    cases n with
    | zero => cases e
    | succ n => rw [zev_step hd, ha] at e; cases e
theorem zkd_ok {p : Nat} (h : (zkd p).1 ≠ 9) : p ≤ 103 ∨ 899 ≤ p := by
  by_cases hp : p ≤ 103
  · exact Or.inl hp
  · right
    rcases zkd_hi (p := p) (by omega) with z | ⟨e, _⟩ | ⟨e, _⟩ | ⟨j, _, e, _⟩ | ⟨j, _, e, _⟩
    · rw [z] at h; exact absurd rfl h
    · omega
    · omega
    · omega
    · omega
theorem zkd_o {p ci : Nat} (h : zkd p = (0, ci)) (hc : ci < 12) : p ≤ 103 := by
  by_cases hp : p ≤ 103
  · exact hp
  · rcases zkd_hi (p := p) (by omega) with z | ⟨_, z⟩ | ⟨_, z⟩ | ⟨j, _, _, z⟩ | ⟨j, _, _, z⟩ <;> rw [h] at z <;> cases z
    omega
section XH
variable {m pc : Nat} {L st : List zV} {I : Nat → Int → Int} {R : Nat → Int → Nat} {n S : Nat}
theorem xGetI {o idx ci k t p : Nat} (kk v : Int) (hv : I p kk = v) (hd : decode (zb m) pc = .ok (.getfield idx, 3)) (ho : zo m = o) (hf : zfl o idx = some (ci, k, t)) (ht : t ≠ 2) (hkk : (k : Int) = kk) (hk : zkd p = (0, ci)) (hn : p ≤ n ∨ 899 ≤ p) : zX m pc L (vR p :: st) (I, R, n, S) = zX m (pc + 3) L (vI v :: st) (I, R, n, S) := by
  subst ho; subst hkk; subst hv
  refine zX_go hd ((zact_eq rfl).trans ?_)
  show zget (zo m) idx (pc + 3) L (vR p :: st) (I, R, n, S) = _
  unfold zget
  rw [hf]
  show (if zkd p = (0, ci) ∧ (p ≤ n ∨ 899 ≤ p) then (if t = 2 then _ else zgo (pc + 3) L (vI (I p k) :: st) (I, R, n, S)) else zno) = _
  rw [if_pos ⟨hk, hn⟩, if_neg ht]
theorem xGetR {o idx ci k p : Nat} (kk : Int) (q : Nat) (hd : decode (zb m) pc = .ok (.getfield idx, 3)) (ho : zo m = o) (hf : zfl o idx = some (ci, k, 2)) (hkk : (k : Int) = kk) (hq : R p kk = q) (hk : zkd p = (0, ci)) (hn : p ≤ n ∨ 899 ≤ p) : zX m pc L (vR p :: st) (I, R, n, S) = zX m (pc + 3) L (vR q :: st) (I, R, n, S) := by
  subst ho; subst hkk; subst hq
  refine zX_go hd ((zact_eq rfl).trans ?_)
  show zget (zo m) idx (pc + 3) L (vR p :: st) (I, R, n, S) = _
  unfold zget
  rw [hf]
  show (if zkd p = (0, ci) ∧ (p ≤ n ∨ 899 ≤ p) then (if 2 = 2 then zgo (pc + 3) L (vR (R p k) :: st) (I, R, n, S) else _) else zno) = _
  rw [if_pos ⟨hk, hn⟩, if_pos rfl]
theorem xPutI {o idx ci k p : Nat} {a : Int} (kk : Int) (hd : decode (zb m) pc = .ok (.putfield idx, 3)) (ho : zo m = o) (hf : zfl o idx = some (ci, k, 0)) (hkk : (k : Int) = kk) (hk : zkd p = (0, ci)) (hn : p ≤ n) (hw : zfin ci k = false ∨ zin m = true ∧ zo m = ci) : zX m pc L (vI a :: vR p :: st) (I, R, n, S) = zX m (pc + 3) L st (sI I p kk a, R, n, S) := by
  subst ho; subst hkk
  refine zX_go hd ((zact_eq rfl).trans ?_)
  show zput m (zo m) idx (pc + 3) L (vI a :: vR p :: st) (I, R, n, S) = _
  unfold zput
  rw [hf]
  exact if_pos ⟨hk, hn, Or.inl rfl, hw⟩
theorem xPutZ {o idx ci k p : Nat} {a : Int} (kk : Int) (hd : decode (zb m) pc = .ok (.putfield idx, 3)) (ho : zo m = o) (hf : zfl o idx = some (ci, k, 1)) (hkk : (k : Int) = kk) (hk : zkd p = (0, ci)) (hn : p ≤ n) (ha : a = 0 ∨ a = 1) (hw : zfin ci k = false ∨ zin m = true ∧ zo m = ci) : zX m pc L (vI a :: vR p :: st) (I, R, n, S) = zX m (pc + 3) L st (sI I p kk a, R, n, S) := by
  subst ho; subst hkk
  refine zX_go hd ((zact_eq rfl).trans ?_)
  show zput m (zo m) idx (pc + 3) L (vI a :: vR p :: st) (I, R, n, S) = _
  unfold zput
  rw [hf]
  exact if_pos ⟨hk, hn, Or.inr ⟨rfl, ha⟩, hw⟩
theorem xPutR {o idx ci k p q : Nat} (kk : Int) (hd : decode (zb m) pc = .ok (.putfield idx, 3)) (ho : zo m = o) (hf : zfl o idx = some (ci, k, 2)) (hkk : (k : Int) = kk) (hk : zkd p = (0, ci)) (hn : p ≤ n) (hq : q ≤ n) (hw : zfin ci k = false ∨ zin m = true ∧ zo m = ci) : zX m pc L (vR q :: vR p :: st) (I, R, n, S) = zX m (pc + 3) L st (I, sR R p kk q, n, S) := by
  subst ho; subst hkk
  refine zX_go hd ((zact_eq rfl).trans ?_)
  show zput m (zo m) idx (pc + 3) L (vR q :: vR p :: st) (I, R, n, S) = _
  unfold zput
  rw [hf]
  exact if_pos ⟨hk, hn, rfl, hq, hw⟩
theorem zX_gd {N i : Int} {h h' : zH} {ins : Instr} {len pc' : Nat} {L' st' : List zV} (hd : decode (zb m) pc = .ok (ins, len)) (h1 : 0 ≤ i ∧ i < N → zact m ins pc len L st h = .inl (pc', L', st', h')) (h2 : ¬ (0 ≤ i ∧ i < N) → zact m ins pc len L st h = zno) : zX m pc L st h = if 0 ≤ i ∧ i < N then zX m pc' L' st' h' else none := by
  by_cases hp : 0 ≤ i ∧ i < N
  · rw [if_pos hp]; exact zX_go hd (h1 hp)
  · rw [if_neg hp]; exact zX_no hd (h2 hp)
theorem xIald {p : Nat} {i N : Int} (v : Int) (hv : I p i = v) (hd : decode (zb m) pc = .ok (.iaload, 1)) (hk : (zkd p).1 = 1) (hn : p ≤ n ∨ 899 ≤ p) (hl : (zal (I, R, n, S) p : Int) = N) : zX m pc L (vI i :: vR p :: st) (I, R, n, S) = if 0 ≤ i ∧ i < N then zX m (pc + 1) L (vI v :: st) (I, R, n, S) else none := by
  subst hv
  refine zX_gd hd (fun hi => ?_) (fun hi => ?_)
  · show (if (zkd p).1 ∈ [1] ∧ (p ≤ n ∨ 899 ≤ p) ∧ 0 ≤ i ∧ i < (zal (I, R, n, S) p : Int) then (if (zkd p).1 ≤ 3 then zgo (pc + 1) L (vI (I p i) :: st) (I, R, n, S) else _) else zno) = _
    rw [if_pos ⟨by rw [hk]; exact List.mem_singleton.mpr rfl, hn, hi.1, by rw [hl]; exact hi.2⟩, if_pos (by omega)]
  · show (if (zkd p).1 ∈ [1] ∧ (p ≤ n ∨ 899 ≤ p) ∧ 0 ≤ i ∧ i < (zal (I, R, n, S) p : Int) then _ else zno) = _
    rw [if_neg (fun z => hi ⟨z.2.2.1, by rw [← hl]; exact z.2.2.2⟩)]
theorem xBald {p : Nat} {i N : Int} (v : Int) (hv : I p i = v) (hd : decode (zb m) pc = .ok (.baload, 1)) (hk : (zkd p).1 = 2 ∨ (zkd p).1 = 3) (hn : p ≤ n ∨ 899 ≤ p) (hl : (zal (I, R, n, S) p : Int) = N) : zX m pc L (vI i :: vR p :: st) (I, R, n, S) = if 0 ≤ i ∧ i < N then zX m (pc + 1) L (vI v :: st) (I, R, n, S) else none := by
  subst hv
  refine zX_gd hd (fun hi => ?_) (fun hi => ?_)
  · show (if (zkd p).1 ∈ [2, 3] ∧ (p ≤ n ∨ 899 ≤ p) ∧ 0 ≤ i ∧ i < (zal (I, R, n, S) p : Int) then (if (zkd p).1 ≤ 3 then zgo (pc + 1) L (vI (I p i) :: st) (I, R, n, S) else _) else zno) = _
    rw [if_pos ⟨by rcases hk with hk | hk <;> rw [hk] <;> decide, hn, hi.1, by rw [hl]; exact hi.2⟩, if_pos (by omega)]
  · show (if (zkd p).1 ∈ [2, 3] ∧ (p ≤ n ∨ 899 ≤ p) ∧ 0 ≤ i ∧ i < (zal (I, R, n, S) p : Int) then _ else zno) = _
    rw [if_neg (fun z => hi ⟨z.2.2.1, by rw [← hl]; exact z.2.2.2⟩)]
theorem xLald {p : Nat} {i N : Int} (v : Int) (hv : I p i = v) (hd : decode (zb m) pc = .ok (.laload, 1)) (hk : (zkd p).1 = 4) (hn : p ≤ n ∨ 899 ≤ p) (hl : (zal (I, R, n, S) p : Int) = N) : zX m pc L (vI i :: vR p :: st) (I, R, n, S) = if 0 ≤ i ∧ i < N then zX m (pc + 1) L (vL v :: st) (I, R, n, S) else none := by
  subst hv
  refine zX_gd hd (fun hi => ?_) (fun hi => ?_)
  · show (if (zkd p).1 ∈ [4] ∧ (p ≤ n ∨ 899 ≤ p) ∧ 0 ≤ i ∧ i < (zal (I, R, n, S) p : Int) then (if (zkd p).1 ≤ 3 then _ else if (zkd p).1 = 4 then zgo (pc + 1) L (vL (I p i) :: st) (I, R, n, S) else _) else zno) = _
    rw [if_pos ⟨by rw [hk]; exact List.mem_singleton.mpr rfl, hn, hi.1, by rw [hl]; exact hi.2⟩, if_neg (by omega), if_pos hk]
  · show (if (zkd p).1 ∈ [4] ∧ (p ≤ n ∨ 899 ≤ p) ∧ 0 ≤ i ∧ i < (zal (I, R, n, S) p : Int) then _ else zno) = _
    rw [if_neg (fun z => hi ⟨z.2.2.1, by rw [← hl]; exact z.2.2.2⟩)]
theorem xAald {p : Nat} {i N : Int} (hd : decode (zb m) pc = .ok (.aaload, 1)) (hk : (zkd p).1 = 5 ∨ (zkd p).1 = 6) (hn : p ≤ n ∨ 899 ≤ p) (hl : (zal (I, R, n, S) p : Int) = N) : zX m pc L (vI i :: vR p :: st) (I, R, n, S) = if 0 ≤ i ∧ i < N then zX m (pc + 1) L (vR (R p i) :: st) (I, R, n, S) else none := by
  refine zX_gd hd (fun hi => ?_) (fun hi => ?_)
  · show (if (zkd p).1 ∈ [5, 6] ∧ (p ≤ n ∨ 899 ≤ p) ∧ 0 ≤ i ∧ i < (zal (I, R, n, S) p : Int) then (if (zkd p).1 ≤ 3 then _ else if (zkd p).1 = 4 then _ else zgo (pc + 1) L (vR (R p i) :: st) (I, R, n, S)) else zno) = _
    rw [if_pos ⟨by rcases hk with hk | hk <;> rw [hk] <;> decide, hn, hi.1, by rw [hl]; exact hi.2⟩, if_neg (by omega), if_neg (by omega)]
  · show (if (zkd p).1 ∈ [5, 6] ∧ (p ≤ n ∨ 899 ≤ p) ∧ 0 ≤ i ∧ i < (zal (I, R, n, S) p : Int) then _ else zno) = _
    rw [if_neg (fun z => hi ⟨z.2.2.1, by rw [← hl]; exact z.2.2.2⟩)]
theorem xIast {p : Nat} {i x N : Int} (hd : decode (zb m) pc = .ok (.iastore, 1)) (hk : (zkd p).1 = 1) (hn : p ≤ n) (hl : ((zkd p).2 : Int) = N) : zX m pc L (vI x :: vI i :: vR p :: st) (I, R, n, S) = if 0 ≤ i ∧ i < N then zX m (pc + 1) L st (sI I p i x, R, n, S) else none := by
  refine zX_gd hd (fun hi => ?_) (fun hi => ?_)
  · show (if (zkd p).1 = 1 ∧ p ≤ n ∧ 0 ≤ i ∧ i < ((zkd p).2 : Int) then zgo (pc + 1) L st (sI I p i x, R, n, S) else zno) = _
    rw [if_pos ⟨hk, hn, hi.1, by rw [hl]; exact hi.2⟩]
  · show (if (zkd p).1 = 1 ∧ p ≤ n ∧ 0 ≤ i ∧ i < ((zkd p).2 : Int) then _ else zno) = _
    rw [if_neg (fun z => hi ⟨z.2.2.1, by rw [← hl]; exact z.2.2.2⟩)]
theorem xBast {p : Nat} {i x N : Int} (hd : decode (zb m) pc = .ok (.bastore, 1)) (hk : (zkd p).1 = 2) (hn : p ≤ n) (hl : ((zkd p).2 : Int) = N) : zX m pc L (vI x :: vI i :: vR p :: st) (I, R, n, S) = if 0 ≤ i ∧ i < N then zX m (pc + 1) L st (sI I p i (wb x), R, n, S) else none := by
  refine zX_gd hd (fun hi => ?_) (fun hi => ?_)
  · show (if p ≤ n ∧ 0 ≤ i ∧ i < ((zkd p).2 : Int) then (if (zkd p).1 = 2 then zgo (pc + 1) L st (sI I p i (wb x), R, n, S) else _) else zno) = _
    rw [if_pos ⟨hn, hi.1, by rw [hl]; exact hi.2⟩, if_pos hk]
  · show (if p ≤ n ∧ 0 ≤ i ∧ i < ((zkd p).2 : Int) then _ else zno) = _
    rw [if_neg (fun z => hi ⟨z.2.1, by rw [← hl]; exact z.2.2⟩)]
theorem xZast {p : Nat} {i x N : Int} (hd : decode (zb m) pc = .ok (.bastore, 1)) (hk : (zkd p).1 = 3) (hn : p ≤ n) (hx : x = 0 ∨ x = 1) (hl : ((zkd p).2 : Int) = N) : zX m pc L (vI x :: vI i :: vR p :: st) (I, R, n, S) = if 0 ≤ i ∧ i < N then zX m (pc + 1) L st (sI I p i x, R, n, S) else none := by
  refine zX_gd hd (fun hi => ?_) (fun hi => ?_)
  · show (if p ≤ n ∧ 0 ≤ i ∧ i < ((zkd p).2 : Int) then (if (zkd p).1 = 2 then _ else if (zkd p).1 = 3 ∧ (x = 0 ∨ x = 1) then zgo (pc + 1) L st (sI I p i x, R, n, S) else zno) else zno) = _
    rw [if_pos ⟨hn, hi.1, by rw [hl]; exact hi.2⟩, if_neg (by omega), if_pos ⟨hk, hx⟩]
  · show (if p ≤ n ∧ 0 ≤ i ∧ i < ((zkd p).2 : Int) then _ else zno) = _
    rw [if_neg (fun z => hi ⟨z.2.1, by rw [← hl]; exact z.2.2⟩)]
theorem xLast {p : Nat} {i x N : Int} (hd : decode (zb m) pc = .ok (.lastore, 1)) (hk : (zkd p).1 = 4) (hn : p ≤ n) (hx : -2147483648 ≤ x ∧ x ≤ 2147483647) (hl : ((zkd p).2 : Int) = N) : zX m pc L (vL x :: vI i :: vR p :: st) (I, R, n, S) = if 0 ≤ i ∧ i < N then zX m (pc + 1) L st (sI I p i x, R, n, S) else none := by
  refine zX_gd hd (fun hi => ?_) (fun hi => ?_)
  · show (if (zkd p).1 = 4 ∧ p ≤ n ∧ 0 ≤ i ∧ i < ((zkd p).2 : Int) ∧ -2147483648 ≤ x ∧ x ≤ 2147483647 then zgo (pc + 1) L st (sI I p i x, R, n, S) else zno) = _
    rw [if_pos ⟨hk, hn, hi.1, by rw [hl]; exact hi.2, hx⟩]
  · show (if (zkd p).1 = 4 ∧ p ≤ n ∧ 0 ≤ i ∧ i < ((zkd p).2 : Int) ∧ -2147483648 ≤ x ∧ x ≤ 2147483647 then _ else zno) = _
    rw [if_neg (fun z => hi ⟨z.2.2.1, by rw [← hl]; exact z.2.2.2.1⟩)]
theorem xAast {p q : Nat} {i N : Int} (hd : decode (zb m) pc = .ok (.aastore, 1)) (hk : (zkd p).1 = 5 ∧ zkd q = (0, 4) ∨ (zkd p).1 = 6 ∧ zkd q = (0, 8)) (hq : q ≤ n) (hn : p ≤ n) (hl : ((zkd p).2 : Int) = N) : zX m pc L (vR q :: vI i :: vR p :: st) (I, R, n, S) = if 0 ≤ i ∧ i < N then zX m (pc + 1) L st (I, sR R p i q, n, S) else none := by
  refine zX_gd hd (fun hi => ?_) (fun hi => ?_)
  · show (if ((zkd p).1 = 5 ∧ zkd q = (0, 4) ∨ (zkd p).1 = 6 ∧ zkd q = (0, 8)) ∧ q ≤ n ∧ p ≤ n ∧ 0 ≤ i ∧ i < ((zkd p).2 : Int) then zgo (pc + 1) L st (I, sR R p i q, n, S) else zno) = _
    rw [if_pos ⟨hk, hq, hn, hi.1, by rw [hl]; exact hi.2⟩]
  · show (if ((zkd p).1 = 5 ∧ zkd q = (0, 4) ∨ (zkd p).1 = 6 ∧ zkd q = (0, 8)) ∧ q ≤ n ∧ p ≤ n ∧ 0 ≤ i ∧ i < ((zkd p).2 : Int) then _ else zno) = _
    rw [if_neg (fun z => hi ⟨z.2.2.2.1, by rw [← hl]; exact z.2.2.2.2⟩)]
theorem xAlen {p : Nat} {N : Int} (hd : decode (zb m) pc = .ok (.arraylength, 1)) (hk : 1 ≤ (zkd p).1 ∧ (zkd p).1 ≤ 6) (hn : p ≤ n ∨ 899 ≤ p) (hl : (zal (I, R, n, S) p : Int) = N) (hN : N < 2147483648) : zX m pc L (vR p :: st) (I, R, n, S) = zX m (pc + 1) L (vI N :: st) (I, R, n, S) := by
  refine zX_go hd ((zact_eq rfl).trans ?_)
  show (if 1 ≤ (zkd p).1 ∧ (zkd p).1 ≤ 6 ∧ (p ≤ n ∨ 899 ≤ p) ∧ zal (I, R, n, S) p < 2147483648 then zgo (pc + 1) L (vI (zal (I, R, n, S) p) :: st) (I, R, n, S) else zno) = _
  rw [if_pos ⟨hk.1, hk.2, hn, by omega⟩, hl]
theorem xLdc {o k : Nat} {a : Int} {h : zH} (hd : decode (zb m) pc = .ok (.ldc k, 2)) (ho : zo m = o) (hc : zct o k = some a) (hr : -2147483648 ≤ a ∧ a ≤ 2147483647) : zX m pc L st h = zX m (pc + 2) L (vI a :: st) h := by
  subst ho
  refine zX_go hd ((zact_eq rfl).trans ?_)
  simp only [zac0]
  rw [hc]
  exact if_pos hr
theorem xLdcS {o k j : Nat} {h : zH} (hd : decode (zb m) pc = .ok (.ldc k, 2)) (ho : zo m = o) (hc : zct o k = none) (hs : zst o k = some j) : zX m pc L st h = zX m (pc + 2) L (vR (1000 + j) :: st) h := by
  subst ho
  refine zX_go hd ((zact_eq rfl).trans ?_)
  simp only [zac0]
  rw [hc]
  simp only
  rw [hs]
  rfl
theorem xLdcw {o k : Nat} {a : Int} {h : zH} (hd : decode (zb m) pc = .ok (.ldc_w k, 3)) (ho : zo m = o) (hc : zct o k = some a) (hr : -2147483648 ≤ a ∧ a ≤ 2147483647) : zX m pc L st h = zX m (pc + 3) L (vI a :: st) h := by
  subst ho
  refine zX_go hd ((zact_eq rfl).trans ?_)
  simp only [zac0]
  rw [hc]
  exact if_pos hr
theorem xLdc2 {o k : Nat} {a : Int} {h : zH} (hd : decode (zb m) pc = .ok (.ldc2_w k, 3)) (ho : zo m = o) (hc : zcl o k = some a) (hr : -2147483648 ≤ a ∧ a ≤ 2147483647) : zX m pc L st h = zX m (pc + 3) L (vL a :: st) h := by
  subst ho
  refine zX_go hd ((zact_eq rfl).trans ?_)
  simp only [zac0]
  rw [hc]
  exact if_pos hr
theorem xGetstI {o k : Nat} {h : zH} (hd : decode (zb m) pc = .ok (.getstatic k, 3)) (ho : zo m = o) (hc : zgs o k = some (-1)) : zX m pc L st h = zX m (pc + 3) L (vI 1 :: st) h := by
  subst ho
  refine zX_go hd ((zact_eq rfl).trans ?_)
  simp only [zac0, zgst]
  rw [hc]
  rfl
theorem xGetstR {o k q : Nat} {c : Int} {h : zH} (hd : decode (zb m) pc = .ok (.getstatic k, 3)) (ho : zo m = o) (hc : zgs o k = some c) (hq : c = (q : Int)) : zX m pc L st h = zX m (pc + 3) L (vR q :: st) h := by
  subst ho; subst hq
  refine zX_go hd ((zact_eq rfl).trans ?_)
  simp only [zac0, zgst]
  rw [hc]
  simp only
  rw [if_neg (by omega), if_pos (by omega)]
  rfl
theorem xIret {a : Int} {h : zH} (hd : decode (zb m) pc = .ok (.ireturn, 1)) (hr : zret m = some .int) : zX m pc L [vI a] h = some (some (vI a), h) := zX_ret hd ((zact_eq rfl).trans (by
  simp only [zac0, zrt]
  rw [hr]))
theorem xZret {a : Int} {h : zH} (hd : decode (zb m) pc = .ok (.ireturn, 1)) (hr : zret m = some .boolean) (ha : a = 0 ∨ a = 1) : zX m pc L [vI a] h = some (some (vI a), h) := zX_ret hd ((zact_eq rfl).trans (by
  simp only [zac0, zrt]
  rw [hr]
  exact if_pos ha))
theorem xCret {a : Int} {h : zH} (hd : decode (zb m) pc = .ok (.ireturn, 1)) (hr : zret m = some .char) (ha : 0 ≤ a ∧ a < 65536) : zX m pc L [vI a] h = some (some (vI a), h) := zX_ret hd ((zact_eq rfl).trans (by
  simp only [zac0, zrt]
  rw [hr]
  exact if_pos ha))
theorem xBret {a : Int} {h : zH} (hd : decode (zb m) pc = .ok (.ireturn, 1)) (hr : zret m = some .byte) (ha : -128 ≤ a ∧ a < 128) : zX m pc L [vI a] h = some (some (vI a), h) := zX_ret hd ((zact_eq rfl).trans (by
  simp only [zac0, zrt]
  rw [hr]
  exact if_pos ha))
theorem xVret {h : zH} (hd : decode (zb m) pc = .ok (.return_, 1)) (hr : zret m = none) : zX m pc L [] h = some (none, h) := zX_ret hd ((zact_eq rfl).trans (if_pos ⟨rfl, hr⟩))
/-- a call's conditions, by program -/
def zcOk (m d : Nat) (as st' : List zV) : Bool := Nat.ble (d + 1) 217 && Nat.ble (zfr d + 1) (zfr m) && Nat.ble (8 + (zL d + 11) + zlo d) (zlo m) && Nat.ble ((st'.map zcat).sum) 8 && as.all (fun v => v.isSome && (zhl d || znl v)) && Nat.ble (zent as).length (zL d) && Nat.beq as.length (zna d)
theorem zcall_eq {h : zH} {o idx k d pc' k1 k2 : Nat} {as st' : List zV} (hm : zml o idx = some (k, d)) (hk : k = k1 ∨ k = k2) (hs : st = as.reverse ++ st') (hc : zcOk m d as st' = true) (hr : k = 1 ∨ ∃ x rest, as = vR x :: rest ∧ ((zkd x = (0, zo d) ∧ x ≤ h.2.2.1) ∨ (zo d = 13 ∧ zkd x = (0, 20)))) : zcall m o idx pc' k1 k2 L st h = .inr (.inl (d, as, pc', st')) := by
  unfold zcOk at hc
  simp only [Bool.and_eq_true, Nat.ble_eq, Nat.beq_eq] at hc
  obtain ⟨⟨⟨⟨⟨⟨h1, h2⟩, h3⟩, h4⟩, h5⟩, h6⟩, h7⟩ := hc
  have e1 : st.take (zna d) = as.reverse := by rw [hs, ← h7, ← List.length_reverse, List.take_left]
  have e2 : st.drop (zna d) = st' := by rw [hs, ← h7, ← List.length_reverse, List.drop_left]
  have e3 : zna d ≤ st.length := by rw [hs, List.length_append, List.length_reverse]; omega
  unfold zcall
  rw [hm]
  simp only
  rw [if_pos hk, e1, e2, List.reverse_reverse, if_pos ⟨e3, h1, h2, h3, h4, by rw [List.all_reverse]; exact h5, h6⟩]
  rcases hr with rfl | ⟨x, rest, rfl, hx⟩
  · rw [if_pos rfl]
  · by_cases hk1 : k = 1
    · rw [if_pos hk1]
    · rw [if_neg hk1]
      simp only
      rw [if_pos hx]
theorem xInvV {h : zH} {o idx d x : Nat} {rest : List zV} (as st' : List zV) (hd : decode (zb m) pc = .ok (.invokevirtual idx, 3)) (ho : zo m = o) (hm : zml o idx = some (0, d)) (hs : st = as.reverse ++ st') (hc : zcOk m d as st' = true) (ha : as = vR x :: rest) (hx : (zkd x = (0, zo d) ∧ x ≤ h.2.2.1) ∨ (zo d = 13 ∧ zkd x = (0, 20))) : zX m pc L st h = (zrun d as h).bind (fun q => zX m (pc + 3) L (zpush q.1 st') q.2) := by
  subst ho
  exact zX_call hd ((zact_eq rfl).trans (zcall_eq hm (Or.inl rfl) hs hc (Or.inr ⟨x, rest, ha, hx⟩)))
theorem xInvS {h : zH} {o idx d : Nat} (as st' : List zV) (hd : decode (zb m) pc = .ok (.invokestatic idx, 3)) (ho : zo m = o) (hm : zml o idx = some (1, d)) (hs : st = as.reverse ++ st') (hc : zcOk m d as st' = true) : zX m pc L st h = (zrun d as h).bind (fun q => zX m (pc + 3) L (zpush q.1 st') q.2) := by
  subst ho
  exact zX_call hd ((zact_eq rfl).trans (zcall_eq hm (Or.inl rfl) hs hc (Or.inl rfl)))
theorem xInvC {h : zH} {o idx k d x : Nat} {rest : List zV} (as st' : List zV) (hd : decode (zb m) pc = .ok (.invokespecial idx, 3)) (ho : zo m = o) (hm : zml o idx = some (k, d)) (hk : k = 2 ∨ k = 3) (hs : st = as.reverse ++ st') (hc : zcOk m d as st' = true) (ha : as = vR x :: rest) (hx : (zkd x = (0, zo d) ∧ x ≤ h.2.2.1) ∨ (zo d = 13 ∧ zkd x = (0, 20))) : zX m pc L st h = (zrun d as h).bind (fun q => zX m (pc + 3) L (zpush q.1 st') q.2) := by
  subst ho
  exact zX_call hd ((zact_eq rfl).trans (zcall_eq hm hk hs hc (Or.inr ⟨x, rest, ha, hx⟩)))
theorem xObj {h : zH} {o idx d x : Nat} (hd : decode (zb m) pc = .ok (.invokespecial idx, 3)) (ho : zo m = o) (hm : zml o idx = some (10, d)) (hx : 1 ≤ x ∧ x ≤ h.2.2.1) (hc : (Nat.ble 1 (zfr m) && Nat.ble ((st.map zcat).sum + 12) (zlo m)) = true) : zX m pc L (vR x :: st) h = zX m (pc + 3) L st h := by
  subst ho
  refine zX_go hd ((zact_eq rfl).trans ?_)
  simp only [Bool.and_eq_true, Nat.ble_eq] at hc
  show zcall m (zo m) idx (pc + 3) 2 3 L (vR x :: st) h = _
  unfold zcall
  rw [hm]
  simp only
  rw [if_neg (by decide), if_pos (by decide)]
  exact if_pos ⟨hx.1, hx.2, hc.1, hc.2⟩
theorem xCopy {o idx d' p q : Nat} {k dp sp N M : Int} (hd : decode (zb m) pc = .ok (.invokestatic idx, 3)) (ho : zo m = o) (hm : zml o idx = some (11, d')) (hp : (zkd p).1 = 1) (hpn : p ≤ n) (hq : (zkd q).1 = 1) (hqn : q ≤ n) (hN : ((zkd p).2 : Int) = N) (hM : ((zkd q).2 : Int) = M) (hc : (Nat.ble 1 (zfr m) && Nat.ble ((st.map zcat).sum + 30) (zlo m)) = true) (hb : 0 ≤ k ∧ 0 ≤ dp ∧ 0 ≤ sp ∧ sp + k ≤ M ∧ dp + k ≤ N) : zX m pc L (vI k :: vI dp :: vR p :: vI sp :: vR q :: st) (I, R, n, S) = zX m (pc + 3) L st (zcpy I q sp p dp k, R, n, S) := by
  subst ho
  refine zX_go hd ((zact_eq rfl).trans ?_)
  simp only [Bool.and_eq_true, Nat.ble_eq] at hc
  show zcall m (zo m) idx (pc + 3) 1 1 L (vI k :: vI dp :: vR p :: vI sp :: vR q :: st) (I, R, n, S) = _
  unfold zcall
  rw [hm]
  simp only
  rw [if_neg (by decide), if_neg (by decide), if_pos (by decide)]
  exact if_pos ⟨hp, hpn, hq, hqn, hb.1, hb.2.1, hb.2.2.1, by rw [hM]; exact hb.2.2.2.1, by rw [hN]; exact hb.2.2.2.2, hc.1, hc.2⟩
end XH
theorem sI_p {I : Nat → Int → Int} {p q : Nat} {k j x : Int} (h : q ≠ p) : sI I p k x q j = I q j := by unfold sI; rw [if_neg (fun z => h z.1)]
theorem sI_k {I : Nat → Int → Int} {p : Nat} {k j x : Int} (h : j ≠ k) : sI I p k x p j = I p j := by unfold sI; rw [if_neg (fun z => h z.2)]
theorem sI_s {I : Nat → Int → Int} {p : Nat} {k x : Int} : sI I p k x p k = x := by unfold sI; rw [if_pos ⟨rfl, rfl⟩]
theorem zcpy_p {I : Nat → Int → Int} {a p q : Nat} {sp dp n j : Int} (h : q ≠ p) : zcpy I a sp p dp n q j = I q j := by unfold zcpy; rw [if_neg (fun z => h z.1)]
theorem ziteC {α : Type} {c : Prop} {inst : Decidable c} {t t' u u' : α} (h1 : t = t') (h2 : u = u') : (if c then t else u) = if c then t' else u' := by rw [h1, h2]
/-- the program that plays; the spare one -/
def zg (b : Bool) : Nat := if b = true then 38 else 25
def zg2 (b : Bool) : Nat := if b = true then 25 else 38
def zRsL : List (List Nat) := [[], [2, 4, 6, 8, 22, 23, 24, 25, 38], [3], [], [2, 0, 0, 5], [], [7], [], [9, 11, 15, 18, 19, 0, 0, 0, 0, 20], [0, 0, 10], [], [12, 0, 13, 14], [], [], [], [16, 17], [], [], [], [], [0, 0, 21], [], [51, 65], [], [79, 81, 83, 85], [26, 31, 32, 33, 34, 35, 0, 36, 0, 37], [27, 28, 29, 30], [], [], [], [], [], [], [], [], [], [], [], [39, 44, 45, 46, 47, 48, 0, 49, 0, 50], [40, 41, 42, 43], [], [], [], [], [], [], [], [], [], [], [], [52, 54, 58, 61, 62, 0, 0, 0, 0, 63], [0, 0, 53], [], [55, 0, 56, 57], [], [], [], [59, 60], [], [], [], [], [0, 0, 64], [], [66, 68, 72, 75, 76, 0, 0, 0, 0, 77], [0, 0, 67], [], [69, 0, 70, 71], [], [], [], [73, 74], [], [], [], [], [0, 0, 78], [], [80], [], [82], [], [84], [], [86], [], [88, 89, 90, 0, 91, 92, 93, 94, 95, 96, 0, 0, 0, 0, 0, 0, 0, 97, 98, 0, 99, 0, 100, 0, 0, 101, 102, 103], [], [], [], [], [], [], [], [], [], [], [], [], [], [], [], []]
/-- the references, as they stay -/
def zRs (b : Bool) : Nat → Int → Nat := fun p k => if p = 1 ∧ k = 7 then zg b else if p = 1 ∧ k = 8 then zg2 b else if 1000 ≤ p ∧ p < 1006 ∧ k = 0 then p + 100 else if 0 ≤ k then (zRsL.getD p []).getD k.toNat 0 else 0
abbrev isProg (g : Nat) : Prop := g = 25 ∨ g = 38
abbrev isPool (g : Nat) : Prop := g = 26 ∨ g = 39
abbrev isCur (g : Nat) : Prop := g = 9 ∨ g = 20 ∨ g = 52 ∨ g = 63 ∨ g = 66 ∨ g = 77
abbrev isPgs (g : Nat) : Prop := g = 11 ∨ g = 54 ∨ g = 68
abbrev isMk (g : Nat) : Prop := g = 15 ∨ g = 58 ∨ g = 72
abbrev isPl (g : Nat) : Prop := g = 8 ∨ g = 51 ∨ g = 65
abbrev isSh (g : Nat) : Prop := g = 79 ∨ g = 81 ∨ g = 83 ∨ g = 85
abbrev isRow (g : Nat) : Prop := g = 5 ∨ g = 7
abbrev isStr (g : Nat) : Prop := g = 1000 ∨ g = 1001 ∨ g = 1002 ∨ g = 1003 ∨ g = 1004 ∨ g = 1005
theorem zg_ok (b : Bool) : isProg (zg b) := by cases b <;> decide
theorem zg2_ok (b : Bool) : isProg (zg2 b) := by cases b <;> decide
theorem isProg_pool {g : Nat} (h : isProg g) : isPool (g + 1) := by rcases h with rfl | rfl <;> decide
theorem isCur_k {g : Nat} (h : isCur g) : zkd g = (0, 0) := by rcases h with rfl | rfl | rfl | rfl | rfl | rfl <;> rfl
theorem isCur_n {g : Nat} (h : isCur g) : g ≤ 103 := by rcases h with rfl | rfl | rfl | rfl | rfl | rfl <;> decide
theorem isCur_r2 {b : Bool} {g : Nat} (h : isCur g) : zRs b g 2 = g + 1 := by rcases h with rfl | rfl | rfl | rfl | rfl | rfl <;> cases b <;> rfl
theorem isCur_k1 {g : Nat} (h : isCur g) : zkd (g + 1) = (1, 24) := by rcases h with rfl | rfl | rfl | rfl | rfl | rfl <;> rfl
theorem isCur_n1 {g : Nat} (h : isCur g) : g + 1 ≤ 103 := by rcases h with rfl | rfl | rfl | rfl | rfl | rfl <;> decide
theorem isMk_k {g : Nat} (h : isMk g) : zkd g = (0, 2) := by rcases h with rfl | rfl | rfl <;> rfl
theorem isMk_n {g : Nat} (h : isMk g) : g ≤ 103 := by rcases h with rfl | rfl | rfl <;> decide
theorem isMk_r0 {b : Bool} {g : Nat} (h : isMk g) : zRs b g 0 = g + 1 := by rcases h with rfl | rfl | rfl <;> cases b <;> rfl
theorem isMk_k1 {g : Nat} (h : isMk g) : zkd (g + 1) = (1, 40) := by rcases h with rfl | rfl | rfl <;> rfl
theorem isMk_n1 {g : Nat} (h : isMk g) : g + 1 ≤ 103 := by rcases h with rfl | rfl | rfl <;> decide
theorem isMk_r1 {b : Bool} {g : Nat} (h : isMk g) : zRs b g 1 = g + 2 := by rcases h with rfl | rfl | rfl <;> cases b <;> rfl
theorem isMk_k2 {g : Nat} (h : isMk g) : zkd (g + 2) = (1, 40) := by rcases h with rfl | rfl | rfl <;> rfl
theorem isMk_n2 {g : Nat} (h : isMk g) : g + 2 ≤ 103 := by rcases h with rfl | rfl | rfl <;> decide
theorem isPgs_k {g : Nat} (h : isPgs g) : zkd g = (0, 3) := by rcases h with rfl | rfl | rfl <;> rfl
theorem isPgs_n {g : Nat} (h : isPgs g) : g ≤ 103 := by rcases h with rfl | rfl | rfl <;> decide
theorem isPgs_r0 {b : Bool} {g : Nat} (h : isPgs g) : zRs b g 0 = g + 1 := by rcases h with rfl | rfl | rfl <;> cases b <;> rfl
theorem isPgs_k1 {g : Nat} (h : isPgs g) : zkd (g + 1) = (1, 6) := by rcases h with rfl | rfl | rfl <;> rfl
theorem isPgs_n1 {g : Nat} (h : isPgs g) : g + 1 ≤ 103 := by rcases h with rfl | rfl | rfl <;> decide
theorem isPgs_r2 {b : Bool} {g : Nat} (h : isPgs g) : zRs b g 2 = g + 2 := by rcases h with rfl | rfl | rfl <;> cases b <;> rfl
theorem isPgs_k2 {g : Nat} (h : isPgs g) : zkd (g + 2) = (1, 16) := by rcases h with rfl | rfl | rfl <;> rfl
theorem isPgs_n2 {g : Nat} (h : isPgs g) : g + 2 ≤ 103 := by rcases h with rfl | rfl | rfl <;> decide
theorem isPgs_r3 {b : Bool} {g : Nat} (h : isPgs g) : zRs b g 3 = g + 3 := by rcases h with rfl | rfl | rfl <;> cases b <;> rfl
theorem isPgs_k3 {g : Nat} (h : isPgs g) : zkd (g + 3) = (1, 16) := by rcases h with rfl | rfl | rfl <;> rfl
theorem isPgs_n3 {g : Nat} (h : isPgs g) : g + 3 ≤ 103 := by rcases h with rfl | rfl | rfl <;> decide
theorem isPl_k {g : Nat} (h : isPl g) : zkd g = (0, 4) := by rcases h with rfl | rfl | rfl <;> rfl
theorem isPl_n {g : Nat} (h : isPl g) : g ≤ 103 := by rcases h with rfl | rfl | rfl <;> decide
theorem isPl_r0 {b : Bool} {g : Nat} (h : isPl g) : zRs b g 0 = g + 1 := by rcases h with rfl | rfl | rfl <;> cases b <;> rfl
theorem isPl_k1 {g : Nat} (h : isPl g) : zkd (g + 1) = (0, 0) := by rcases h with rfl | rfl | rfl <;> rfl
theorem isPl_n1 {g : Nat} (h : isPl g) : g + 1 ≤ 103 := by rcases h with rfl | rfl | rfl <;> decide
theorem isPl_r1 {b : Bool} {g : Nat} (h : isPl g) : zRs b g 1 = g + 3 := by rcases h with rfl | rfl | rfl <;> cases b <;> rfl
theorem isPl_k3 {g : Nat} (h : isPl g) : zkd (g + 3) = (0, 3) := by rcases h with rfl | rfl | rfl <;> rfl
theorem isPl_n3 {g : Nat} (h : isPl g) : g + 3 ≤ 103 := by rcases h with rfl | rfl | rfl <;> decide
theorem isPl_r2 {b : Bool} {g : Nat} (h : isPl g) : zRs b g 2 = g + 7 := by rcases h with rfl | rfl | rfl <;> cases b <;> rfl
theorem isPl_k7 {g : Nat} (h : isPl g) : zkd (g + 7) = (0, 2) := by rcases h with rfl | rfl | rfl <;> rfl
theorem isPl_n7 {g : Nat} (h : isPl g) : g + 7 ≤ 103 := by rcases h with rfl | rfl | rfl <;> decide
theorem isPl_r3 {b : Bool} {g : Nat} (h : isPl g) : zRs b g 3 = g + 10 := by rcases h with rfl | rfl | rfl <;> cases b <;> rfl
theorem isPl_k10 {g : Nat} (h : isPl g) : zkd (g + 10) = (1, 200) := by rcases h with rfl | rfl | rfl <;> rfl
theorem isPl_n10 {g : Nat} (h : isPl g) : g + 10 ≤ 103 := by rcases h with rfl | rfl | rfl <;> decide
theorem isPl_r4 {b : Bool} {g : Nat} (h : isPl g) : zRs b g 4 = g + 11 := by rcases h with rfl | rfl | rfl <;> cases b <;> rfl
theorem isPl_k11 {g : Nat} (h : isPl g) : zkd (g + 11) = (1, 5) := by rcases h with rfl | rfl | rfl <;> rfl
theorem isPl_n11 {g : Nat} (h : isPl g) : g + 11 ≤ 103 := by rcases h with rfl | rfl | rfl <;> decide
theorem isPl_r9 {b : Bool} {g : Nat} (h : isPl g) : zRs b g 9 = g + 12 := by rcases h with rfl | rfl | rfl <;> cases b <;> rfl
theorem isPl_k12 {g : Nat} (h : isPl g) : zkd (g + 12) = (0, 0) := by rcases h with rfl | rfl | rfl <;> rfl
theorem isPl_n12 {g : Nat} (h : isPl g) : g + 12 ≤ 103 := by rcases h with rfl | rfl | rfl <;> decide
theorem isPool_k {g : Nat} (h : isPool g) : zkd g = (0, 5) := by rcases h with rfl | rfl <;> rfl
theorem isPool_n {g : Nat} (h : isPool g) : g ≤ 103 := by rcases h with rfl | rfl <;> decide
theorem isPool_r0 {b : Bool} {g : Nat} (h : isPool g) : zRs b g 0 = g + 1 := by rcases h with rfl | rfl <;> cases b <;> rfl
theorem isPool_k1 {g : Nat} (h : isPool g) : zkd (g + 1) = (1, 128) := by rcases h with rfl | rfl <;> rfl
theorem isPool_n1 {g : Nat} (h : isPool g) : g + 1 ≤ 103 := by rcases h with rfl | rfl <;> decide
theorem isPool_r1 {b : Bool} {g : Nat} (h : isPool g) : zRs b g 1 = g + 2 := by rcases h with rfl | rfl <;> cases b <;> rfl
theorem isPool_k2 {g : Nat} (h : isPool g) : zkd (g + 2) = (1, 8) := by rcases h with rfl | rfl <;> rfl
theorem isPool_n2 {g : Nat} (h : isPool g) : g + 2 ≤ 103 := by rcases h with rfl | rfl <;> decide
theorem isPool_r2 {b : Bool} {g : Nat} (h : isPool g) : zRs b g 2 = g + 3 := by rcases h with rfl | rfl <;> cases b <;> rfl
theorem isPool_k3 {g : Nat} (h : isPool g) : zkd (g + 3) = (1, 8) := by rcases h with rfl | rfl <;> rfl
theorem isPool_n3 {g : Nat} (h : isPool g) : g + 3 ≤ 103 := by rcases h with rfl | rfl <;> decide
theorem isPool_r3 {b : Bool} {g : Nat} (h : isPool g) : zRs b g 3 = g + 4 := by rcases h with rfl | rfl <;> cases b <;> rfl
theorem isPool_k4 {g : Nat} (h : isPool g) : zkd (g + 4) = (1, 8) := by rcases h with rfl | rfl <;> rfl
theorem isPool_n4 {g : Nat} (h : isPool g) : g + 4 ≤ 103 := by rcases h with rfl | rfl <;> decide
theorem isProg_k {g : Nat} (h : isProg g) : zkd g = (0, 6) := by rcases h with rfl | rfl <;> rfl
theorem isProg_n {g : Nat} (h : isProg g) : g ≤ 103 := by rcases h with rfl | rfl <;> decide
theorem isProg_r0 {b : Bool} {g : Nat} (h : isProg g) : zRs b g 0 = g + 1 := by rcases h with rfl | rfl <;> cases b <;> rfl
theorem isProg_k1 {g : Nat} (h : isProg g) : zkd (g + 1) = (0, 5) := by rcases h with rfl | rfl <;> rfl
theorem isProg_n1 {g : Nat} (h : isProg g) : g + 1 ≤ 103 := by rcases h with rfl | rfl <;> decide
theorem isProg_r1 {b : Bool} {g : Nat} (h : isProg g) : zRs b g 1 = g + 6 := by rcases h with rfl | rfl <;> cases b <;> rfl
theorem isProg_k6 {g : Nat} (h : isProg g) : zkd (g + 6) = (1, 24) := by rcases h with rfl | rfl <;> rfl
theorem isProg_n6 {g : Nat} (h : isProg g) : g + 6 ≤ 103 := by rcases h with rfl | rfl <;> decide
theorem isProg_r2 {b : Bool} {g : Nat} (h : isProg g) : zRs b g 2 = g + 7 := by rcases h with rfl | rfl <;> cases b <;> rfl
theorem isProg_k7 {g : Nat} (h : isProg g) : zkd (g + 7) = (1, 24) := by rcases h with rfl | rfl <;> rfl
theorem isProg_n7 {g : Nat} (h : isProg g) : g + 7 ≤ 103 := by rcases h with rfl | rfl <;> decide
theorem isProg_r3 {b : Bool} {g : Nat} (h : isProg g) : zRs b g 3 = g + 8 := by rcases h with rfl | rfl <;> cases b <;> rfl
theorem isProg_k8 {g : Nat} (h : isProg g) : zkd (g + 8) = (1, 24) := by rcases h with rfl | rfl <;> rfl
theorem isProg_n8 {g : Nat} (h : isProg g) : g + 8 ≤ 103 := by rcases h with rfl | rfl <;> decide
theorem isProg_r4 {b : Bool} {g : Nat} (h : isProg g) : zRs b g 4 = g + 9 := by rcases h with rfl | rfl <;> cases b <;> rfl
theorem isProg_k9 {g : Nat} (h : isProg g) : zkd (g + 9) = (1, 24) := by rcases h with rfl | rfl <;> rfl
theorem isProg_n9 {g : Nat} (h : isProg g) : g + 9 ≤ 103 := by rcases h with rfl | rfl <;> decide
theorem isProg_r5 {b : Bool} {g : Nat} (h : isProg g) : zRs b g 5 = g + 10 := by rcases h with rfl | rfl <;> cases b <;> rfl
theorem isProg_k10 {g : Nat} (h : isProg g) : zkd (g + 10) = (1, 24) := by rcases h with rfl | rfl <;> rfl
theorem isProg_n10 {g : Nat} (h : isProg g) : g + 10 ≤ 103 := by rcases h with rfl | rfl <;> decide
theorem isProg_r7 {b : Bool} {g : Nat} (h : isProg g) : zRs b g 7 = g + 11 := by rcases h with rfl | rfl <;> cases b <;> rfl
theorem isProg_k11 {g : Nat} (h : isProg g) : zkd (g + 11) = (1, 4) := by rcases h with rfl | rfl <;> rfl
theorem isProg_n11 {g : Nat} (h : isProg g) : g + 11 ≤ 103 := by rcases h with rfl | rfl <;> decide
theorem isProg_r9 {b : Bool} {g : Nat} (h : isProg g) : zRs b g 9 = g + 12 := by rcases h with rfl | rfl <;> cases b <;> rfl
theorem isProg_k12 {g : Nat} (h : isProg g) : zkd (g + 12) = (1, 5) := by rcases h with rfl | rfl <;> rfl
theorem isProg_n12 {g : Nat} (h : isProg g) : g + 12 ≤ 103 := by rcases h with rfl | rfl <;> decide
theorem isSh_k {g : Nat} (h : isSh g) : zkd g = (0, 8) := by rcases h with rfl | rfl | rfl | rfl <;> rfl
theorem isSh_n {g : Nat} (h : isSh g) : g ≤ 103 := by rcases h with rfl | rfl | rfl | rfl <;> decide
theorem isSh_r0 {b : Bool} {g : Nat} (h : isSh g) : zRs b g 0 = g + 1 := by rcases h with rfl | rfl | rfl | rfl <;> cases b <;> rfl
theorem isSh_k1 {g : Nat} (h : isSh g) : zkd (g + 1) = (4, 30) := by rcases h with rfl | rfl | rfl | rfl <;> rfl
theorem isSh_n1 {g : Nat} (h : isSh g) : g + 1 ≤ 103 := by rcases h with rfl | rfl | rfl | rfl <;> decide
theorem isStr_k {g : Nat} (h : isStr g) : zkd g = (0, 20) := by rcases h with rfl | rfl | rfl | rfl | rfl | rfl <;> rfl
theorem isRow_k {g : Nat} (h : isRow g) : zkd g = (1, 16) := by rcases h with rfl | rfl <;> rfl
theorem isRow_n {g : Nat} (h : isRow g) : g ≤ 103 := by rcases h with rfl | rfl <;> decide
theorem isPl_cur {g : Nat} (h : isPl g) : isCur (g + 1) := by rcases h with rfl | rfl | rfl <;> decide
theorem isPl_sc {g : Nat} (h : isPl g) : isCur (g + 12) := by rcases h with rfl | rfl | rfl <;> decide
theorem isPl_pg {g : Nat} (h : isPl g) : isPgs (g + 3) := by rcases h with rfl | rfl | rfl <;> decide
theorem isPl_mk {g : Nat} (h : isPl g) : isMk (g + 7) := by rcases h with rfl | rfl | rfl <;> decide
