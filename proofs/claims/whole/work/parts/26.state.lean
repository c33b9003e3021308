/-! the state, as numbers and lists; the class's cells and the model's cells hold it -/
abbrev pR : Type := Nat → Option (List Int32)
/-- kind, start, pace, seed -/
abbrev pP : Type := List (Nat × Nat × Nat × Nat)
/-- water, picked, eaten, day, last word -/
abbrev pG : Type := (Nat → Nat) × (Nat → Nat) × (Nat → Bool) × Nat × Nat
/-- told, latest, tally, upper, lower -/
abbrev pS : Type := Int32 × Int32 × (Nat → Int32) × Int64 × Int64
def pl (P : pP) (i : Nat) : Nat × Nat × Nat × Nat := P.getD i (0, 0, 1, 0)
def beanN (age pace : Nat) : Nat := min 9 (age / pace)
def ripeN (kind age pace : Nat) : Nat := if kind = 1 ∨ kind = 4 then (if age = 0 then 0 else min 9 (beanN age pace + 1)) else if kind = 2 ∨ kind = 5 then beanN age pace / 2 else beanN age pace
def wordN (kind seed pod : Nat) : Nat := if kind = 1 then (seed + 3 * pod) % 10 else if kind = 3 then (seed + 2 * pod) % 10 else if kind = 4 then (seed + 3 * pod + 1) % 10 else if kind = 5 then (seed + pod / 2) % 10 else (seed + pod) % 10
def mayN (kind day : Nat) : Prop := ¬ kind = 3 ∨ day % 2 = 0
def ripeP (p : Nat × Nat × Nat × Nat) (wet day : Nat) : Nat := ripeN p.1 (day + wet - p.2.1) p.2.2.1
def wordP (p : Nat × Nat × Nat × Nat) (pod : Nat) : Nat := wordN p.1 p.2.2.2 pod
def gW (g : pG) (i : Nat) : Nat := g.1 i
def gP (g : pG) (i : Nat) : Nat := g.2.1 i
def gE (g : pG) (i : Nat) : Bool := g.2.2.1 i
def gD (g : pG) : Nat := g.2.2.2.1
def gL (g : pG) : Nat := g.2.2.2.2
/-- how many pods from the next one on can be picked today -/
def openN (p : Nat × Nat × Nat × Nat) (g : pG) (i : Nat) : Nat := if gE g i = true ∨ (p.1 = 3 ∧ gD g % 2 = 1) then 0 else ripeP p (gW g i) (gD g) - gP g i
def up {α : Type} (f : Nat → α) (i : Nat) (v : α) : Nat → α := fun j => if j = i then v else f j
def g0 : pG := (fun _ => 0, fun _ => 0, fun _ => false, 0, 10)
/-- a deed: 10 times what, and the plant -/
def dstep (P : pP) (g : pG) (c : Nat) : pG :=
  if c / 10 = 0 then (g.1, g.2.1, g.2.2.1, gD g + 1, gL g)
  else if c / 10 = 1 then (up g.1 (c % 10) (gW g (c % 10) + 1), g.2.1, g.2.2.1, gD g, gL g)
  else if c / 10 = 2 then (g.1, up g.2.1 (c % 10) (gP g (c % 10) + 1), g.2.2.1, gD g, wordP (pl P (c % 10)) (gP g (c % 10)))
  else (g.1, g.2.1, up g.2.2.1 (c % 10) true, gD g, gL g)
def rep (P : pP) (D : List Nat) : pG := D.foldl (dstep P) g0
def allowed (P : pP) (g : pG) (c : Nat) : Prop := c % 10 < P.length ∧ c / 10 ≤ 3 ∧ (c / 10 = 1 → gW g (c % 10) < 9 ∧ gE g (c % 10) = false) ∧ (c / 10 = 2 → 0 < openN (pl P (c % 10)) g (c % 10)) ∧ (c / 10 = 3 → gE g (c % 10) = false)
def okD (P : pP) (D : List Nat) : Prop := D.length ≤ 40 ∧ ∀ n, n < D.length → allowed P (rep P (D.take n)) (D.getD n 0)
def okP (P : pP) : Prop := P.length ≤ 6 ∧ ∀ i, i < P.length → (pl P i).1 < 6 ∧ (pl P i).2.1 < 10 ∧ 1 ≤ (pl P i).2.2.1 ∧ (pl P i).2.2.1 < 10 ∧ (pl P i).2.2.2 < 10
/-- the set of those below n, as bits -/
def maskN (f : Nat → Bool) : Nat → Nat
  | 0 => 0
  | n + 1 => maskN f n + (if f n then 2 ^ n else 0)
/-- the model's fifteen numbers -/
def encN (g : pG) (k : Nat) : Nat := if k < 6 then gW g k else if k < 12 then gP g (k - 6) else if k = 12 then maskN g.2.2.1 6 else if k = 13 then gD g else gL g
/-! the class's cells -/
def cR (R : pR) (mi : Nat → Nat → Int32) : Prop := ∀ r, r < 6 → stR mi (5 + 2 * r) (R r) ∧ ∀ xs, R r = some xs → xs.length ≤ 40
def cT (T : pR) (mi : Nat → Nat → Int32) : Prop := ∀ r, r < 4 → stR mi (19 + 2 * r) (T r) ∧ ∀ xs, T r = some xs → xs.length ≤ 60
def cG (P : pP) (D : List Nat) (mi : Nat → Nat → Int32) : Prop :=
  mi 38 2 = nI P.length ∧ mi 38 3 = nI (gD (rep P D)) ∧ mi 38 4 = nI (gL (rep P D)) ∧ stR mi 40 (some (D.map nI)) ∧
  ∀ i, i < P.length → mi (42 + i) 0 = nI (pl P i).1 ∧ mi (42 + i) 1 = nI (pl P i).2.1 ∧ mi (42 + i) 2 = nI (pl P i).2.2.1 ∧ mi (42 + i) 3 = nI (pl P i).2.2.2 ∧ mi (42 + i) 4 = nI (gW (rep P D) i) ∧ mi (42 + i) 5 = nI (gP (rep P D) i) ∧ mi (42 + i) 6 = bI (gE (rep P D) i = true)
def cK (K : Nat → Option (List Nat)) (mi : Nat → Nat → Int32) : Prop := ∀ k, k < 3 → stR mi (29 + 2 * k) ((K k).map (fun D => D.map nI))
def cS (S : pS) (mi : Nat → Nat → Int32) (ml : Nat → Nat → Int64) : Prop := mi 2 11 = S.1 ∧ mi 2 10 = S.2.1 ∧ (∀ f, f < 6 → mi 67 f = S.2.2.1 f) ∧ ml 65 1 = S.2.2.2.1 ∧ ml 65 2 = S.2.2.2.2
/-! the model's cells -/
def mR (R : pR) (mi : Nat → Nat → Int32) : Prop := ∀ r, r < 6 → mi 69 r = szI (R r) ∧ ∀ xs, R r = some xs → xs.length ≤ 40 ∧ ∀ j, j < xs.length → mi 70 (40 * r + j) = xs.getD j 0
def mT (T : pR) (mi : Nat → Nat → Int32) : Prop := ∀ r, r < 4 → mi 71 r = szI (T r) ∧ ∀ xs, T r = some xs → xs.length ≤ 60 ∧ ∀ j, j < xs.length → mi 72 (60 * r + j) = xs.getD j 0
def mG (P : pP) (D : List Nat) (mi : Nat → Nat → Int32) : Prop :=
  mi 68 4 = nI P.length ∧ mi 68 10 = nI D.length ∧ (∀ i, i < P.length → mi 73 i = nI (pl P i).1 ∧ mi 74 i = nI (pl P i).2.1 ∧ mi 75 i = nI (pl P i).2.2.1 ∧ mi 76 i = nI (pl P i).2.2.2) ∧
  (∀ k, k < 15 → mi 77 k = nI (encN (rep P D) k)) ∧ ∀ n k, n < D.length → k < 15 → mi 78 (15 * n + k) = nI (encN (rep P (D.take n)) k)
def mK (P : pP) (K : Nat → Option (List Nat)) (mi : Nat → Nat → Int32) : Prop := ∀ k, k < 3 → mi 80 k = bI ((K k).isSome = true) ∧ ∀ D, K k = some D → mi 79 (616 * k + 615) = nI D.length ∧ (∀ j, j < 15 → mi 79 (616 * k + j) = nI (encN (rep P D) j)) ∧ ∀ n j, n < D.length → j < 15 → mi 79 (616 * k + 15 + 15 * n + j) = nI (encN (rep P (D.take n)) j)
def mS (S : pS) (mi : Nat → Nat → Int32) (ml : Nat → Nat → Int64) : Prop := mi 68 14 = S.1 ∧ mi 68 17 = S.2.1 ∧ (∀ f, f < 6 → mi 81 f = S.2.2.1 f) ∧ ml 68 15 = S.2.2.2.1 ∧ ml 68 16 = S.2.2.2.2
def okK (P : pP) (K : Nat → Option (List Nat)) : Prop := ∀ k, k < 3 → ∀ D, K k = some D → okD P D
def Cst (R T : pR) (P : pP) (D : List Nat) (K : Nat → Option (List Nat)) (S : pS) (mi : Nat → Nat → Int32) (ml : Nat → Nat → Int64) : Prop := cR R mi ∧ cT T mi ∧ cG P D mi ∧ cK K mi ∧ cS S mi ml
def Mst (R T : pR) (P : pP) (D : List Nat) (K : Nat → Option (List Nat)) (S : pS) (mi : Nat → Nat → Int32) (ml : Nat → Nat → Int64) : Prop := mR R mi ∧ mT T mi ∧ mG P D mi ∧ mK P K mi ∧ mS S mi ml
def ok (P : pP) (D : List Nat) (K : Nat → Option (List Nat)) : Prop := okP P ∧ okD P D ∧ okK P K
/-- the other side's cells stay -/
def sameM (mi mi' : Nat → Nat → Int32) (ml ml' : Nat → Nat → Int64) : Prop := (∀ a j, 68 ≤ a ∨ a < 2 → mi' a j = mi a j) ∧ ∀ a j, 68 ≤ a → ml' a j = ml a j
def sameC (mi mi' : Nat → Nat → Int32) (ml ml' : Nat → Nat → Int64) : Prop := (∀ a j, a < 68 → mi' a j = mi a j) ∧ ∀ a j, a < 68 → ml' a j = ml a j
theorem cR_congr {R : pR} {mi mi' : Nat → Nat → Int32} (h : cR R mi) (hc : ∀ a j, 5 ≤ a → a < 17 → mi' a j = mi a j) : cR R mi' := fun r hr => ⟨stR_congr (h r hr).1 (hc _ _ (by omega) (by omega)) (fun j => hc _ j (by omega) (by omega)), (h r hr).2⟩
theorem cT_congr {T : pR} {mi mi' : Nat → Nat → Int32} (h : cT T mi) (hc : ∀ a j, 19 ≤ a → a < 27 → mi' a j = mi a j) : cT T mi' := fun r hr => ⟨stR_congr (h r hr).1 (hc _ _ (by omega) (by omega)) (fun j => hc _ j (by omega) (by omega)), (h r hr).2⟩
theorem cK_congr {K : Nat → Option (List Nat)} {mi mi' : Nat → Nat → Int32} (h : cK K mi) (hc : ∀ a j, 29 ≤ a → a < 35 → mi' a j = mi a j) : cK K mi' := fun k hk => stR_congr (h k hk) (hc _ _ (by omega) (by omega)) (fun j => hc _ j (by omega) (by omega))
theorem cG_congr {P : pP} {D : List Nat} {mi mi' : Nat → Nat → Int32} (hP : P.length ≤ 6) (h : cG P D mi) (hc : ∀ a j, 38 ≤ a → a < 48 → mi' a j = mi a j) : cG P D mi' := by
  obtain ⟨h1, h2, h3, h4, h5⟩ := h
  refine ⟨by rw [hc _ _ (by omega) (by omega)]; exact h1, by rw [hc _ _ (by omega) (by omega)]; exact h2, by rw [hc _ _ (by omega) (by omega)]; exact h3, stR_congr h4 (hc _ _ (by omega) (by omega)) (fun j => hc _ j (by omega) (by omega)), fun i hi => ?_⟩
  have e : ∀ j, mi' (42 + i) j = mi (42 + i) j := fun j => hc _ j (by omega) (by omega)
  rw [e, e, e, e, e, e, e]
  exact h5 i hi
theorem cS_congr {S : pS} {mi mi' : Nat → Nat → Int32} {ml ml' : Nat → Nat → Int64} (h : cS S mi ml) (h2 : ∀ j, mi' 2 j = mi 2 j) (h67 : ∀ j, mi' 67 j = mi 67 j) (hl : ∀ j, ml' 65 j = ml 65 j) : cS S mi' ml' := by
  obtain ⟨a1, a2, a3, a4, a5⟩ := h
  exact ⟨by rw [h2]; exact a1, by rw [h2]; exact a2, fun f hf => by rw [h67]; exact a3 f hf, by rw [hl]; exact a4, by rw [hl]; exact a5⟩
theorem Cst_congr {R T : pR} {P : pP} {D : List Nat} {K : Nat → Option (List Nat)} {S : pS} {mi mi' : Nat → Nat → Int32} {ml ml' : Nat → Nat → Int64} (hP : P.length ≤ 6) (h : Cst R T P D K S mi ml) (hc : sameC mi mi' ml ml') : Cst R T P D K S mi' ml' :=
  ⟨cR_congr h.1 (fun a j _ _ => hc.1 a j (by omega)), cT_congr h.2.1 (fun a j _ _ => hc.1 a j (by omega)), cG_congr hP h.2.2.1 (fun a j _ _ => hc.1 a j (by omega)), cK_congr h.2.2.2.1 (fun a j _ _ => hc.1 a j (by omega)), cS_congr h.2.2.2.2 (fun j => hc.1 2 j (by omega)) (fun j => hc.1 67 j (by omega)) (fun j => hc.2 65 j (by omega))⟩
theorem mR_congr {R : pR} {mi mi' : Nat → Nat → Int32} (h : mR R mi) (h1 : ∀ j, mi' 69 j = mi 69 j) (h2 : ∀ j, mi' 70 j = mi 70 j) : mR R mi' := fun r hr => ⟨by rw [h1]; exact (h r hr).1, fun xs hx => ⟨((h r hr).2 xs hx).1, fun j hj => by rw [h2]; exact ((h r hr).2 xs hx).2 j hj⟩⟩
theorem mT_congr {T : pR} {mi mi' : Nat → Nat → Int32} (h : mT T mi) (h1 : ∀ j, mi' 71 j = mi 71 j) (h2 : ∀ j, mi' 72 j = mi 72 j) : mT T mi' := fun r hr => ⟨by rw [h1]; exact (h r hr).1, fun xs hx => ⟨((h r hr).2 xs hx).1, fun j hj => by rw [h2]; exact ((h r hr).2 xs hx).2 j hj⟩⟩
theorem mG_congr {P : pP} {D : List Nat} {mi mi' : Nat → Nat → Int32} (h : mG P D mi) (h4 : mi' 68 4 = mi 68 4) (h10 : mi' 68 10 = mi 68 10) (hc : ∀ a j, 73 ≤ a → a < 79 → mi' a j = mi a j) : mG P D mi' := by
  obtain ⟨a1, a2, a3, a4, a5⟩ := h
  refine ⟨h4.trans a1, h10.trans a2, fun i hi => ?_, fun k hk => by rw [hc _ _ (by omega) (by omega)]; exact a4 k hk, fun n k hn hk => by rw [hc _ _ (by omega) (by omega)]; exact a5 n k hn hk⟩
  rw [hc _ _ (by omega) (by omega), hc _ _ (by omega) (by omega), hc _ _ (by omega) (by omega), hc _ _ (by omega) (by omega)]
  exact a3 i hi
theorem mK_congr {P : pP} {K : Nat → Option (List Nat)} {mi mi' : Nat → Nat → Int32} (h : mK P K mi) (h1 : ∀ j, mi' 79 j = mi 79 j) (h2 : ∀ j, mi' 80 j = mi 80 j) : mK P K mi' := by
  intro k hk
  obtain ⟨a1, a2⟩ := h k hk
  refine ⟨by rw [h2]; exact a1, fun D hD => ?_⟩
  obtain ⟨b1, b2, b3⟩ := a2 D hD
  exact ⟨by rw [h1]; exact b1, fun j hj => by rw [h1]; exact b2 j hj, fun n j hn hj => by rw [h1]; exact b3 n j hn hj⟩
theorem mS_congr {S : pS} {mi mi' : Nat → Nat → Int32} {ml ml' : Nat → Nat → Int64} (h : mS S mi ml) (h14 : mi' 68 14 = mi 68 14) (h17 : mi' 68 17 = mi 68 17) (h81 : ∀ j, mi' 81 j = mi 81 j) (hl : ∀ j, ml' 68 j = ml 68 j) : mS S mi' ml' := by
  obtain ⟨a1, a2, a3, a4, a5⟩ := h
  exact ⟨h14.trans a1, h17.trans a2, fun f hf => by rw [h81]; exact a3 f hf, by rw [hl]; exact a4, by rw [hl]; exact a5⟩
theorem Mst_congr {R T : pR} {P : pP} {D : List Nat} {K : Nat → Option (List Nat)} {S : pS} {mi mi' : Nat → Nat → Int32} {ml ml' : Nat → Nat → Int64} (h : Mst R T P D K S mi ml) (hc : sameM mi mi' ml ml') : Mst R T P D K S mi' ml' :=
  ⟨mR_congr h.1 (fun j => hc.1 69 j (by omega)) (fun j => hc.1 70 j (by omega)), mT_congr h.2.1 (fun j => hc.1 71 j (by omega)) (fun j => hc.1 72 j (by omega)), mG_congr h.2.2.1 (hc.1 68 4 (by omega)) (hc.1 68 10 (by omega)) (fun a j _ _ => hc.1 a j (by omega)), mK_congr h.2.2.2.1 (fun j => hc.1 79 j (by omega)) (fun j => hc.1 80 j (by omega)), mS_congr h.2.2.2.2 (hc.1 68 14 (by omega)) (hc.1 68 17 (by omega)) (fun j => hc.1 81 j (by omega)) (fun j => hc.2 68 j (by omega))⟩
def ltrI (k : Nat) : Int32 := ([98, 114, 100, 111, 99, 115] : List Int32).getD k 0
/-- the kinds' letters -/
def lets (mi : Nat → Nat → Int32) : Prop := ∀ k, k < 6 → mi 1 k = ltrI k
def Inv (mi : Nat → Nat → Int32) (ml : Nat → Nat → Int64) : Prop := lets mi ∧ ∃ R T P D K S, ok P D K ∧ Cst R T P D K S mi ml ∧ Mst R T P D K S mi ml
/-- one call on both sides: the same answer, and the invariant again -/
def OpV (V : Value → Prop) (fc fm : Nat) (as : List Value) : Prop := ∀ (L : Nat) (mi : Nat → Nat → Int32) (ml : Nat → Nat → Int64), Inv mi ml → Xm fc (.ref 2 :: as) (SH L, mi, ml, MR) 99 (fun v μ' => ∃ y mi' ml', V y ∧ v = some y ∧ μ' = (SH L, mi', ml', MR) ∧ (∀ j, mi' 0 j = mi 0 j) ∧
  Xm fm (.ref 68 :: as) μ' 99 (fun w μ'' => w = some y ∧ ∃ mi'' ml'', μ'' = (SH L, mi'', ml'', MR) ∧ (∀ j, mi'' 0 j = mi 0 j) ∧ Inv mi'' ml''))
def isI (v : Value) : Prop := ∃ x, v = .int x
def isJ (v : Value) : Prop := ∃ x, v = .long x
abbrev OpI : Nat → Nat → List Value → Prop := OpV isI
abbrev OpL : Nat → Nat → List Value → Prop := OpV isJ
/-- a side's contract: from the state to the state, with the answer; the other side's cells stay -/
def CC (f : Nat) (as : List Value) (v : Option Value) (R T : pR) (P : pP) (D : List Nat) (K : Nat → Option (List Nat)) (S : pS) (R' T' : pR) (P' : pP) (D' : List Nat) (K' : Nat → Option (List Nat)) (S' : pS) : Prop := ∀ (L : Nat) (mi : Nat → Nat → Int32) (ml : Nat → Nat → Int64) (Q : Option Value → xM → Prop), Cst R T P D K S mi ml → (∀ mi' ml', Cst R' T' P' D' K' S' mi' ml' → sameM mi mi' ml ml' → Q v (SH L, mi', ml', MR)) → Xm f (.ref 2 :: as) (SH L, mi, ml, MR) 99 Q
def MM (f : Nat) (as : List Value) (v : Option Value) (R T : pR) (P : pP) (D : List Nat) (K : Nat → Option (List Nat)) (S : pS) (R' T' : pR) (P' : pP) (D' : List Nat) (K' : Nat → Option (List Nat)) (S' : pS) : Prop := ∀ (L : Nat) (mi : Nat → Nat → Int32) (ml : Nat → Nat → Int64) (Q : Option Value → xM → Prop), Mst R T P D K S mi ml → (∀ mi' ml', Mst R' T' P' D' K' S' mi' ml' → sameC mi mi' ml ml' → Q v (SH L, mi', ml', MR)) → Xm f (.ref 68 :: as) (SH L, mi, ml, MR) 99 Q
/-- the class's contract, where it reads the letters -/
def CCl (f : Nat) (as : List Value) (v : Option Value) (R T : pR) (P : pP) (D : List Nat) (K : Nat → Option (List Nat)) (S : pS) (R' T' : pR) (P' : pP) (D' : List Nat) (K' : Nat → Option (List Nat)) (S' : pS) : Prop := ∀ (L : Nat) (mi : Nat → Nat → Int32) (ml : Nat → Nat → Int64) (Q : Option Value → xM → Prop), lets mi → Cst R T P D K S mi ml → (∀ mi' ml', Cst R' T' P' D' K' S' mi' ml' → sameM mi mi' ml ml' → Q v (SH L, mi', ml', MR)) → Xm f (.ref 2 :: as) (SH L, mi, ml, MR) 99 Q
theorem op_ofL {V : Value → Prop} {fc fm : Nat} {as : List Value} (h : ∀ R T P D K S, ok P D K → ∃ v R' T' P' D' K' S', V v ∧ ok P' D' K' ∧ CCl fc as (some v) R T P D K S R' T' P' D' K' S' ∧ MM fm as (some v) R T P D K S R' T' P' D' K' S') : OpV V fc fm as := by
  intro L mi ml ⟨hlet, R, T, P, D, K, S, hok, hC, hM⟩
  obtain ⟨v, R', T', P', D', K', S', hv, hok', c, m⟩ := h R T P D K S hok
  refine c L mi ml _ hlet hC (fun mi1 ml1 hC1 hs => ⟨v, mi1, ml1, hv, rfl, rfl, fun j => hs.1 0 j (by omega), ?_⟩)
  refine m L mi1 ml1 _ (Mst_congr hM hs) (fun mi2 ml2 hM2 hs2 => ?_)
  exact ⟨rfl, mi2, ml2, rfl, fun j => by rw [hs2.1 0 j (by omega), hs.1 0 j (by omega)], fun k hk => by rw [hs2.1 1 k (by omega), hs.1 1 k (by omega)]; exact hlet k hk, R', T', P', D', K', S', hok', Cst_congr hok'.1.1 hC1 hs2, hM2⟩
theorem op_of {V : Value → Prop} {fc fm : Nat} {as : List Value} (h : ∀ R T P D K S, ok P D K → ∃ v R' T' P' D' K' S', V v ∧ ok P' D' K' ∧ CC fc as (some v) R T P D K S R' T' P' D' K' S' ∧ MM fm as (some v) R T P D K S R' T' P' D' K' S') : OpV V fc fm as := by
  refine op_ofL (fun R T P D K S hok => ?_)
  obtain ⟨v, R', T', P', D', K', S', hv, hok', c, m⟩ := h R T P D K S hok
  exact ⟨v, R', T', P', D', K', S', hv, hok', fun L mi ml Q _ => c L mi ml Q, m⟩
theorem Xm_mono {f : Nat} {as : List Value} {μ : xM} {d : Nat} {Q Q' : Option Value → xM → Prop} (h : Xm f as μ d Q) (hq : ∀ v μ', Q v μ' → Q' v μ') : Xm f as μ d Q' := by
  obtain ⟨n, v, μ', h1, h2⟩ := h
  exact ⟨n, v, μ', h1, hq v μ' h2⟩
