theorem isProg_k2 {g : Nat} (h : isProg g) : zkd (g + 2) = (1, 128) := by rcases h with rfl | rfl <;> rfl
theorem isProg_n2 {g : Nat} (h : isProg g) : g + 2 ≤ 103 := by rcases h with rfl | rfl <;> decide
theorem isProg_k3 {g : Nat} (h : isProg g) : zkd (g + 3) = (1, 8) := by rcases h with rfl | rfl <;> rfl
theorem isProg_n3 {g : Nat} (h : isProg g) : g + 3 ≤ 103 := by rcases h with rfl | rfl <;> decide
theorem isProg_k4 {g : Nat} (h : isProg g) : zkd (g + 4) = (1, 8) := by rcases h with rfl | rfl <;> rfl
theorem isProg_n4 {g : Nat} (h : isProg g) : g + 4 ≤ 103 := by rcases h with rfl | rfl <;> decide
theorem isProg_k5 {g : Nat} (h : isProg g) : zkd (g + 5) = (1, 8) := by rcases h with rfl | rfl <;> rfl
theorem isProg_n5 {g : Nat} (h : isProg g) : g + 5 ≤ 103 := by rcases h with rfl | rfl <;> decide
theorem isPl_k2 {g : Nat} (h : isPl g) : zkd (g + 2) = (1, 24) := by rcases h with rfl | rfl | rfl <;> rfl
theorem isPl_n2 {g : Nat} (h : isPl g) : g + 2 ≤ 103 := by rcases h with rfl | rfl | rfl <;> decide
theorem isPl_k4 {g : Nat} (h : isPl g) : zkd (g + 4) = (1, 6) := by rcases h with rfl | rfl | rfl <;> rfl
theorem isPl_n4 {g : Nat} (h : isPl g) : g + 4 ≤ 103 := by rcases h with rfl | rfl | rfl <;> decide
theorem isPl_k5 {g : Nat} (h : isPl g) : zkd (g + 5) = (1, 16) := by rcases h with rfl | rfl | rfl <;> rfl
theorem isPl_n5 {g : Nat} (h : isPl g) : g + 5 ≤ 103 := by rcases h with rfl | rfl | rfl <;> decide
theorem isPl_k6 {g : Nat} (h : isPl g) : zkd (g + 6) = (1, 16) := by rcases h with rfl | rfl | rfl <;> rfl
theorem isPl_n6 {g : Nat} (h : isPl g) : g + 6 ≤ 103 := by rcases h with rfl | rfl | rfl <;> decide
theorem isPl_k8 {g : Nat} (h : isPl g) : zkd (g + 8) = (1, 40) := by rcases h with rfl | rfl | rfl <;> rfl
theorem isPl_n8 {g : Nat} (h : isPl g) : g + 8 ≤ 103 := by rcases h with rfl | rfl | rfl <;> decide
theorem isPl_k9 {g : Nat} (h : isPl g) : zkd (g + 9) = (1, 40) := by rcases h with rfl | rfl | rfl <;> rfl
theorem isPl_n9 {g : Nat} (h : isPl g) : g + 9 ≤ 103 := by rcases h with rfl | rfl | rfl <;> decide
theorem isPl_k13 {g : Nat} (h : isPl g) : zkd (g + 13) = (1, 24) := by rcases h with rfl | rfl | rfl <;> rfl
theorem isPl_n13 {g : Nat} (h : isPl g) : g + 13 ≤ 103 := by rcases h with rfl | rfl | rfl <;> decide
theorem log_k {lg : Nat} (h : lg = 0 ∨ lg = 15) (hne : ¬ lg = 0) : zkd lg = (0, 2) := by rcases h with rfl | rfl; exact absurd rfl hne; rfl
theorem log_n {lg : Nat} (h : lg = 0 ∨ lg = 15) (hne : ¬ lg = 0) : lg ≤ 103 := by omega
theorem ziteCn {α : Type} {c : Prop} {inst : Decidable c} {t t' u u' : α} (h1 : t = t') (h2 : ¬ c → u = u') : (if c then t else u) = if c then t' else u' := by split; exact h1; rename_i h; exact h2 h
