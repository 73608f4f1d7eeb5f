section ENTRC
def sg0 : Sg := (fun i => if i = 66 then (fun k => if k = 10 then -1 else 0) else fun _ => 0, fun i => if i = 65 then (fun k => if k = 2 then 1 else 0) else fun _ => 0)
theorem sim_sg0 : Sim sg0 := by
  refine sim_fresh (fun i k h => ?_) (fun i k h => ?_)
  · show (if i = 66 then (fun k => if k = 10 then (-1 : Int32) else 0) else fun _ => 0) k = 0
    by_cases c : i = 66
    · rw [if_pos c]; exact if_neg (fun e => h ⟨c, e⟩)
    · rw [if_neg c]
  · show (if i = 65 then (fun k => if k = 2 then (1 : Int64) else 0) else fun _ => 0) k = 0
    by_cases c : i = 65
    · rw [if_pos c]; exact if_neg (fun e => h ⟨c, e⟩)
    · rw [if_neg c]
def wl0 (a : Nat → Nat) (cA : Nat → ClassId) : va_W := [((a 0), .inr (9, [.ref (a 1), .ref (a 10), .ref (a 40), .ref (a 41), .ref (a 42), .ref (a 49), .int 0, .ref (a 55), .ref (a 63), .ref (a 65), .int 0])),
  ((a 1), .inr (5, [.ref (a 2), .int 0, .int 0, .int 0, .int 0, .int 0, .int 0, .ref (a 25), .ref (a 3), .ref (a 4), .ref (a 6), .ref (a 8), .int 0, .int 0])),
  ((a 2), .inl (cA 1, 900, .inl (fun _ => 0))),
  ((a 3), .inl (cA 0, 7, .inl (fun _ => 0))),
  ((a 4), .inr (3, [.ref (a 5), .int 0])),
  ((a 5), .inl (cA 0, 9, .inl (fun _ => 0))),
  ((a 6), .inr (3, [.ref (a 7), .int 0])),
  ((a 7), .inl (cA 0, 9, .inl (fun _ => 0))),
  ((a 8), .inr (3, [.ref (a 9), .int 0])),
  ((a 9), .inl (cA 0, 9, .inl (fun _ => 0))),
  ((a 10), .inr (1, [.int 0, .int 0, .int 0, .int 0, .long 0, .long 0, .ref (a 11), .ref (a 13), .ref (a 15), .ref (a 17), .ref (a 19), .ref (a 21), .ref (a 23), .int 0, .long 0])),
  ((a 11), .inr (3, [.ref (a 12), .int 0])),
  ((a 12), .inl (cA 0, 3, .inl (fun _ => 0))),
  ((a 13), .inr (3, [.ref (a 14), .int 0])),
  ((a 14), .inl (cA 0, 6, .inl (fun _ => 0))),
  ((a 15), .inr (3, [.ref (a 16), .int 0])),
  ((a 16), .inl (cA 0, 6, .inl (fun _ => 0))),
  ((a 17), .inr (3, [.ref (a 18), .int 0])),
  ((a 18), .inl (cA 0, 8, .inl (fun _ => 0))),
  ((a 19), .inr (3, [.ref (a 20), .int 0])),
  ((a 20), .inl (cA 0, 4, .inl (fun _ => 0))),
  ((a 21), .inr (3, [.ref (a 22), .int 0])),
  ((a 22), .inl (cA 0, 6, .inl (fun _ => 0))),
  ((a 23), .inr (3, [.ref (a 24), .int 0])),
  ((a 24), .inl (cA 0, 6, .inl (fun _ => 0))),
  ((a 25), .inr (1, [.int 0, .int 0, .int 0, .int 0, .long 0, .long 0, .ref (a 26), .ref (a 28), .ref (a 30), .ref (a 32), .ref (a 34), .ref (a 36), .ref (a 38), .int 0, .long 0])),
  ((a 26), .inr (3, [.ref (a 27), .int 0])),
  ((a 27), .inl (cA 0, 3, .inl (fun _ => 0))),
  ((a 28), .inr (3, [.ref (a 29), .int 0])),
  ((a 29), .inl (cA 0, 6, .inl (fun _ => 0))),
  ((a 30), .inr (3, [.ref (a 31), .int 0])),
  ((a 31), .inl (cA 0, 6, .inl (fun _ => 0))),
  ((a 32), .inr (3, [.ref (a 33), .int 0])),
  ((a 33), .inl (cA 0, 8, .inl (fun _ => 0))),
  ((a 34), .inr (3, [.ref (a 35), .int 0])),
  ((a 35), .inl (cA 0, 4, .inl (fun _ => 0))),
  ((a 36), .inr (3, [.ref (a 37), .int 0])),
  ((a 37), .inl (cA 0, 6, .inl (fun _ => 0))),
  ((a 38), .inr (3, [.ref (a 39), .int 0])),
  ((a 39), .inl (cA 0, 6, .inl (fun _ => 0))),
  ((a 40), .inr (7, [.long 0, .long 0, .int 0, .int 0, .int 0])),
  ((a 41), .inr (7, [.long 0, .long 0, .int 0, .int 0, .int 0])),
  ((a 42), .inr (2, [.ref (a 43), .int 0, .int 0])),
  ((a 43), .inr (6, [.ref (a 44), .ref (a 45), .ref (a 46), .ref (a 47), .ref (a 48)])),
  ((a 44), .inl (cA 2, 16, .inr (.inl (fun _ => 0)))),
  ((a 45), .inl (cA 2, 16, .inr (.inl (fun _ => 0)))),
  ((a 46), .inl (cA 0, 16, .inl (fun _ => 0))),
  ((a 47), .inl (cA 0, 16, .inl (fun _ => 0))),
  ((a 48), .inl (cA 0, 16, .inl (fun _ => 0))),
  ((a 49), .inr (6, [.ref (a 50), .ref (a 51), .ref (a 52), .ref (a 53), .ref (a 54)])),
  ((a 50), .inl (cA 2, 3, .inr (.inl (fun _ => 0)))),
  ((a 51), .inl (cA 2, 3, .inr (.inl (fun _ => 0)))),
  ((a 52), .inl (cA 0, 3, .inl (fun _ => 0))),
  ((a 53), .inl (cA 0, 3, .inl (fun _ => 0))),
  ((a 54), .inl (cA 0, 3, .inl (fun _ => 0))),
  ((a 55), .inr (4, [.ref (a 56), .ref (a 57), .ref (a 58), .ref (a 59), .ref (a 60), .ref (a 61), .ref (a 62), .null, .long 0, .int 0, .int 0, .long 0])),
  ((a 56), .inl (cA 0, 60, .inl (fun _ => 0))),
  ((a 57), .inl (cA 0, 60, .inl (fun _ => 0))),
  ((a 58), .inl (cA 0, 60, .inl (fun _ => 0))),
  ((a 59), .inl (cA 0, 60, .inl (fun _ => 0))),
  ((a 60), .inl (cA 0, 60, .inl (fun _ => 0))),
  ((a 61), .inl (cA 2, 6, .inr (.inl (fun _ => 0)))),
  ((a 62), .inl (cA 0, 61, .inl (fun _ => 0))),
  ((a 63), .inr (8, [.int 0, .int 0, .int 0, .int 0, .int 0, .ref (a 64)])),
  ((a 64), .inr (7, [.long 0, .long 0, .int 0, .int 0, .int 0])),
  ((a 65), .inr (0, [.long 0, .long 0, .long 1, .int 0, .int 0, .int 0])),
  ((a 66), .inr (10, [.int 0, .ref (a 67), .int 0, .int 0, .int 0, .int 0, .int 0, .int 0, .int 0, .int 0, .int (-1), .int 0, .ref (a 68), .int 0, .int 0, .ref (a 69), .ref (a 70), .ref (a 71), .ref (a 72), .ref (a 73), .ref (a 74), .ref (a 75), .ref (a 76), .ref (a 77), .int 0, .int 0, .ref (a 78), .int 0, .int 0, .int 0, .int 0, .ref (a 79), .ref (a 80), .ref (a 81), .ref (a 82), .int 0, .int 0, .int 0, .int 0, .int 0, .ref (a 83), .int 0, .int 0, .int 0, .ref (a 84), .int 0, .int 0, .int 0, .int 0, .long 0, .long 0, .long 0])),
  ((a 67), .inl (cA 0, 900, .inl (fun _ => 0))),
  ((a 68), .inl (cA 0, 8, .inl (fun _ => 0))),
  ((a 69), .inl (cA 0, 189, .inl (fun _ => 0))),
  ((a 70), .inl (cA 0, 189, .inl (fun _ => 0))),
  ((a 71), .inl (cA 0, 63, .inl (fun _ => 0))),
  ((a 72), .inl (cA 0, 63, .inl (fun _ => 0))),
  ((a 73), .inl (cA 0, 63, .inl (fun _ => 0))),
  ((a 74), .inl (cA 0, 63, .inl (fun _ => 0))),
  ((a 75), .inl (cA 0, 63, .inl (fun _ => 0))),
  ((a 76), .inl (cA 0, 1008, .inl (fun _ => 0))),
  ((a 77), .inl (cA 0, 189, .inl (fun _ => 0))),
  ((a 78), .inl (cA 0, 60, .inl (fun _ => 0))),
  ((a 79), .inl (cA 0, 5, .inl (fun _ => 0))),
  ((a 80), .inl (cA 0, 378, .inl (fun _ => 0))),
  ((a 81), .inl (cA 0, 63, .inl (fun _ => 0))),
  ((a 82), .inl (cA 0, 60, .inl (fun _ => 0))),
  ((a 83), .inl (cA 0, 61, .inl (fun _ => 0))),
  ((a 84), .inl (cA 0, 4, .inl (fun _ => 0))),
  ((a 85), .inl (cA 2, 1, .inr (.inl (fun _ => 0))))]
def wlF (a : Nat → Nat) (cA : Nat → ClassId) (σ : Sg) : Nat → List Shp → va_W
  | _, [] => []
  | i, h :: t => cel a cA σ i h :: wlF a cA σ (i + 1) t
theorem wlF_at {a : Nat → Nat} {cA : Nat → ClassId} {σ : Sg} : ∀ (l : List Shp) (i k : Nat), (wlF a cA σ i l)[k]? = l[k]?.map (cel a cA σ (i + k)) := by
  intro l
  induction l with
  | nil => intro i k; rfl
  | cons h t ih =>
    intro i k
    cases k with
    | zero => rfl
    | succ k =>
      show (wlF a cA σ (i + 1) t)[k]? = _
      rw [ih, show i + 1 + k = i + (k + 1) by omega]
      rfl
theorem wlF_eq {a : Nat → Nat} {cA : Nat → ClassId} {σ : Sg} : wlF a cA σ 0 SH = wld a cA σ := by
  apply List.ext_getElem?
  intro k
  rw [wlF_at, Nat.zero_add, wld, List.getElem?_mapIdx]
def fF (a : Nat → Nat) (σ : Sg) (i : Nat) : Nat → List (Nat × Nat) → List Value
  | _, [] => []
  | k, f :: t => ren a (fvl σ i k f) :: fF a σ i (k + 1) t
theorem fF_at {a : Nat → Nat} {σ : Sg} {i : Nat} : ∀ (l : List (Nat × Nat)) (j k : Nat), (fF a σ i j l)[k]? = l[k]?.map (fun f => ren a (fvl σ i (j + k) f)) := by
  intro l
  induction l with
  | nil => intro j k; rfl
  | cons h t ih =>
    intro j k
    cases k with
    | zero => rfl
    | succ k =>
      show (fF a σ i (j + 1) t)[k]? = _
      rw [ih, show j + 1 + k = j + (k + 1) by omega]
      rfl
theorem fF_eq {a : Nat → Nat} {σ : Sg} {i : Nat} {l : List (Nat × Nat)} : fF a σ i 0 l = l.mapIdx (fun k f => ren a (fvl σ i k f)) := by
  apply List.ext_getElem?
  intro k
  rw [fF_at, Nat.zero_add, List.getElem?_mapIdx]
theorem cel_F {a : Nat → Nat} {cA : Nat → ClassId} {σ : Sg} {i c : Nat} {l : List (Nat × Nat)} : (a i, Sum.inr (c, fF a σ i 0 l)) = cel a cA σ i (.inl (c, l)) := by
  rw [fF_eq]
  rfl
theorem lc2 {α : Type} {x y : α} {l k : List α} (h : x = y) (g : l = k) : x :: l = y :: k := by rw [h, g]
theorem wc_0 (a : Nat → Nat) (cA : Nat → ClassId) : ((a 0), .inr (9, [.ref (a 1), .ref (a 10), .ref (a 40), .ref (a 41), .ref (a 42), .ref (a 49), .int 0, .ref (a 55), .ref (a 63), .ref (a 65), .int 0])) = cel a cA sg0 0 (.inl (9, [(2, 1), (2, 10), (2, 40), (2, 41), (2, 42), (2, 49), (0, 0), (2, 55), (2, 63), (2, 65), (0, 0)])) := rfl
theorem wc_1 (a : Nat → Nat) (cA : Nat → ClassId) : ((a 1), .inr (5, [.ref (a 2), .int 0, .int 0, .int 0, .int 0, .int 0, .int 0, .ref (a 25), .ref (a 3), .ref (a 4), .ref (a 6), .ref (a 8), .int 0, .int 0])) = cel a cA sg0 1 (.inl (5, [(2, 2), (0, 0), (0, 0), (0, 0), (0, 0), (0, 0), (0, 0), (2, 25), (2, 3), (2, 4), (2, 6), (2, 8), (0, 0), (0, 0)])) := rfl
theorem wc_2 (a : Nat → Nat) (cA : Nat → ClassId) : ((a 2), .inl (cA 1, 900, .inl (fun _ => 0))) = cel a cA sg0 2 (.inr (1, 900)) := rfl
theorem wc_3 (a : Nat → Nat) (cA : Nat → ClassId) : ((a 3), .inl (cA 0, 7, .inl (fun _ => 0))) = cel a cA sg0 3 (.inr (0, 7)) := rfl
theorem wc_4 (a : Nat → Nat) (cA : Nat → ClassId) : ((a 4), .inr (3, [.ref (a 5), .int 0])) = cel a cA sg0 4 (.inl (3, [(2, 5), (0, 0)])) := rfl
theorem wc_5 (a : Nat → Nat) (cA : Nat → ClassId) : ((a 5), .inl (cA 0, 9, .inl (fun _ => 0))) = cel a cA sg0 5 (.inr (0, 9)) := rfl
theorem wc_6 (a : Nat → Nat) (cA : Nat → ClassId) : ((a 6), .inr (3, [.ref (a 7), .int 0])) = cel a cA sg0 6 (.inl (3, [(2, 7), (0, 0)])) := rfl
theorem wc_7 (a : Nat → Nat) (cA : Nat → ClassId) : ((a 7), .inl (cA 0, 9, .inl (fun _ => 0))) = cel a cA sg0 7 (.inr (0, 9)) := rfl
theorem wc_8 (a : Nat → Nat) (cA : Nat → ClassId) : ((a 8), .inr (3, [.ref (a 9), .int 0])) = cel a cA sg0 8 (.inl (3, [(2, 9), (0, 0)])) := rfl
theorem wc_9 (a : Nat → Nat) (cA : Nat → ClassId) : ((a 9), .inl (cA 0, 9, .inl (fun _ => 0))) = cel a cA sg0 9 (.inr (0, 9)) := rfl
theorem wc_10 (a : Nat → Nat) (cA : Nat → ClassId) : ((a 10), .inr (1, [.int 0, .int 0, .int 0, .int 0, .long 0, .long 0, .ref (a 11), .ref (a 13), .ref (a 15), .ref (a 17), .ref (a 19), .ref (a 21), .ref (a 23), .int 0, .long 0])) = cel a cA sg0 10 (.inl (1, [(0, 0), (0, 0), (0, 0), (0, 0), (1, 0), (1, 0), (2, 11), (2, 13), (2, 15), (2, 17), (2, 19), (2, 21), (2, 23), (0, 0), (1, 0)])) := rfl
theorem wc_11 (a : Nat → Nat) (cA : Nat → ClassId) : ((a 11), .inr (3, [.ref (a 12), .int 0])) = cel a cA sg0 11 (.inl (3, [(2, 12), (0, 0)])) := rfl
theorem wc_12 (a : Nat → Nat) (cA : Nat → ClassId) : ((a 12), .inl (cA 0, 3, .inl (fun _ => 0))) = cel a cA sg0 12 (.inr (0, 3)) := rfl
theorem wc_13 (a : Nat → Nat) (cA : Nat → ClassId) : ((a 13), .inr (3, [.ref (a 14), .int 0])) = cel a cA sg0 13 (.inl (3, [(2, 14), (0, 0)])) := rfl
theorem wc_14 (a : Nat → Nat) (cA : Nat → ClassId) : ((a 14), .inl (cA 0, 6, .inl (fun _ => 0))) = cel a cA sg0 14 (.inr (0, 6)) := rfl
theorem wc_15 (a : Nat → Nat) (cA : Nat → ClassId) : ((a 15), .inr (3, [.ref (a 16), .int 0])) = cel a cA sg0 15 (.inl (3, [(2, 16), (0, 0)])) := rfl
theorem wc_16 (a : Nat → Nat) (cA : Nat → ClassId) : ((a 16), .inl (cA 0, 6, .inl (fun _ => 0))) = cel a cA sg0 16 (.inr (0, 6)) := rfl
theorem wc_17 (a : Nat → Nat) (cA : Nat → ClassId) : ((a 17), .inr (3, [.ref (a 18), .int 0])) = cel a cA sg0 17 (.inl (3, [(2, 18), (0, 0)])) := rfl
theorem wc_18 (a : Nat → Nat) (cA : Nat → ClassId) : ((a 18), .inl (cA 0, 8, .inl (fun _ => 0))) = cel a cA sg0 18 (.inr (0, 8)) := rfl
theorem wc_19 (a : Nat → Nat) (cA : Nat → ClassId) : ((a 19), .inr (3, [.ref (a 20), .int 0])) = cel a cA sg0 19 (.inl (3, [(2, 20), (0, 0)])) := rfl
theorem wc_20 (a : Nat → Nat) (cA : Nat → ClassId) : ((a 20), .inl (cA 0, 4, .inl (fun _ => 0))) = cel a cA sg0 20 (.inr (0, 4)) := rfl
theorem wc_21 (a : Nat → Nat) (cA : Nat → ClassId) : ((a 21), .inr (3, [.ref (a 22), .int 0])) = cel a cA sg0 21 (.inl (3, [(2, 22), (0, 0)])) := rfl
theorem wc_22 (a : Nat → Nat) (cA : Nat → ClassId) : ((a 22), .inl (cA 0, 6, .inl (fun _ => 0))) = cel a cA sg0 22 (.inr (0, 6)) := rfl
theorem wc_23 (a : Nat → Nat) (cA : Nat → ClassId) : ((a 23), .inr (3, [.ref (a 24), .int 0])) = cel a cA sg0 23 (.inl (3, [(2, 24), (0, 0)])) := rfl
theorem wc_24 (a : Nat → Nat) (cA : Nat → ClassId) : ((a 24), .inl (cA 0, 6, .inl (fun _ => 0))) = cel a cA sg0 24 (.inr (0, 6)) := rfl
theorem wc_25 (a : Nat → Nat) (cA : Nat → ClassId) : ((a 25), .inr (1, [.int 0, .int 0, .int 0, .int 0, .long 0, .long 0, .ref (a 26), .ref (a 28), .ref (a 30), .ref (a 32), .ref (a 34), .ref (a 36), .ref (a 38), .int 0, .long 0])) = cel a cA sg0 25 (.inl (1, [(0, 0), (0, 0), (0, 0), (0, 0), (1, 0), (1, 0), (2, 26), (2, 28), (2, 30), (2, 32), (2, 34), (2, 36), (2, 38), (0, 0), (1, 0)])) := rfl
theorem wc_26 (a : Nat → Nat) (cA : Nat → ClassId) : ((a 26), .inr (3, [.ref (a 27), .int 0])) = cel a cA sg0 26 (.inl (3, [(2, 27), (0, 0)])) := rfl
theorem wc_27 (a : Nat → Nat) (cA : Nat → ClassId) : ((a 27), .inl (cA 0, 3, .inl (fun _ => 0))) = cel a cA sg0 27 (.inr (0, 3)) := rfl
theorem wc_28 (a : Nat → Nat) (cA : Nat → ClassId) : ((a 28), .inr (3, [.ref (a 29), .int 0])) = cel a cA sg0 28 (.inl (3, [(2, 29), (0, 0)])) := rfl
theorem wc_29 (a : Nat → Nat) (cA : Nat → ClassId) : ((a 29), .inl (cA 0, 6, .inl (fun _ => 0))) = cel a cA sg0 29 (.inr (0, 6)) := rfl
theorem wc_30 (a : Nat → Nat) (cA : Nat → ClassId) : ((a 30), .inr (3, [.ref (a 31), .int 0])) = cel a cA sg0 30 (.inl (3, [(2, 31), (0, 0)])) := rfl
theorem wc_31 (a : Nat → Nat) (cA : Nat → ClassId) : ((a 31), .inl (cA 0, 6, .inl (fun _ => 0))) = cel a cA sg0 31 (.inr (0, 6)) := rfl
theorem wc_32 (a : Nat → Nat) (cA : Nat → ClassId) : ((a 32), .inr (3, [.ref (a 33), .int 0])) = cel a cA sg0 32 (.inl (3, [(2, 33), (0, 0)])) := rfl
theorem wc_33 (a : Nat → Nat) (cA : Nat → ClassId) : ((a 33), .inl (cA 0, 8, .inl (fun _ => 0))) = cel a cA sg0 33 (.inr (0, 8)) := rfl
theorem wc_34 (a : Nat → Nat) (cA : Nat → ClassId) : ((a 34), .inr (3, [.ref (a 35), .int 0])) = cel a cA sg0 34 (.inl (3, [(2, 35), (0, 0)])) := rfl
theorem wc_35 (a : Nat → Nat) (cA : Nat → ClassId) : ((a 35), .inl (cA 0, 4, .inl (fun _ => 0))) = cel a cA sg0 35 (.inr (0, 4)) := rfl
theorem wc_36 (a : Nat → Nat) (cA : Nat → ClassId) : ((a 36), .inr (3, [.ref (a 37), .int 0])) = cel a cA sg0 36 (.inl (3, [(2, 37), (0, 0)])) := rfl
theorem wc_37 (a : Nat → Nat) (cA : Nat → ClassId) : ((a 37), .inl (cA 0, 6, .inl (fun _ => 0))) = cel a cA sg0 37 (.inr (0, 6)) := rfl
theorem wc_38 (a : Nat → Nat) (cA : Nat → ClassId) : ((a 38), .inr (3, [.ref (a 39), .int 0])) = cel a cA sg0 38 (.inl (3, [(2, 39), (0, 0)])) := rfl
theorem wc_39 (a : Nat → Nat) (cA : Nat → ClassId) : ((a 39), .inl (cA 0, 6, .inl (fun _ => 0))) = cel a cA sg0 39 (.inr (0, 6)) := rfl
theorem wc_40 (a : Nat → Nat) (cA : Nat → ClassId) : ((a 40), .inr (7, [.long 0, .long 0, .int 0, .int 0, .int 0])) = cel a cA sg0 40 (.inl (7, [(1, 0), (1, 0), (0, 0), (0, 0), (0, 0)])) := rfl
theorem wc_41 (a : Nat → Nat) (cA : Nat → ClassId) : ((a 41), .inr (7, [.long 0, .long 0, .int 0, .int 0, .int 0])) = cel a cA sg0 41 (.inl (7, [(1, 0), (1, 0), (0, 0), (0, 0), (0, 0)])) := rfl
theorem wc_42 (a : Nat → Nat) (cA : Nat → ClassId) : ((a 42), .inr (2, [.ref (a 43), .int 0, .int 0])) = cel a cA sg0 42 (.inl (2, [(2, 43), (0, 0), (0, 0)])) := rfl
theorem wc_43 (a : Nat → Nat) (cA : Nat → ClassId) : ((a 43), .inr (6, [.ref (a 44), .ref (a 45), .ref (a 46), .ref (a 47), .ref (a 48)])) = cel a cA sg0 43 (.inl (6, [(2, 44), (2, 45), (2, 46), (2, 47), (2, 48)])) := rfl
theorem wc_44 (a : Nat → Nat) (cA : Nat → ClassId) : ((a 44), .inl (cA 2, 16, .inr (.inl (fun _ => 0)))) = cel a cA sg0 44 (.inr (2, 16)) := rfl
theorem wc_45 (a : Nat → Nat) (cA : Nat → ClassId) : ((a 45), .inl (cA 2, 16, .inr (.inl (fun _ => 0)))) = cel a cA sg0 45 (.inr (2, 16)) := rfl
theorem wc_46 (a : Nat → Nat) (cA : Nat → ClassId) : ((a 46), .inl (cA 0, 16, .inl (fun _ => 0))) = cel a cA sg0 46 (.inr (0, 16)) := rfl
theorem wc_47 (a : Nat → Nat) (cA : Nat → ClassId) : ((a 47), .inl (cA 0, 16, .inl (fun _ => 0))) = cel a cA sg0 47 (.inr (0, 16)) := rfl
theorem wc_48 (a : Nat → Nat) (cA : Nat → ClassId) : ((a 48), .inl (cA 0, 16, .inl (fun _ => 0))) = cel a cA sg0 48 (.inr (0, 16)) := rfl
theorem wc_49 (a : Nat → Nat) (cA : Nat → ClassId) : ((a 49), .inr (6, [.ref (a 50), .ref (a 51), .ref (a 52), .ref (a 53), .ref (a 54)])) = cel a cA sg0 49 (.inl (6, [(2, 50), (2, 51), (2, 52), (2, 53), (2, 54)])) := rfl
theorem wc_50 (a : Nat → Nat) (cA : Nat → ClassId) : ((a 50), .inl (cA 2, 3, .inr (.inl (fun _ => 0)))) = cel a cA sg0 50 (.inr (2, 3)) := rfl
theorem wc_51 (a : Nat → Nat) (cA : Nat → ClassId) : ((a 51), .inl (cA 2, 3, .inr (.inl (fun _ => 0)))) = cel a cA sg0 51 (.inr (2, 3)) := rfl
theorem wc_52 (a : Nat → Nat) (cA : Nat → ClassId) : ((a 52), .inl (cA 0, 3, .inl (fun _ => 0))) = cel a cA sg0 52 (.inr (0, 3)) := rfl
theorem wc_53 (a : Nat → Nat) (cA : Nat → ClassId) : ((a 53), .inl (cA 0, 3, .inl (fun _ => 0))) = cel a cA sg0 53 (.inr (0, 3)) := rfl
theorem wc_54 (a : Nat → Nat) (cA : Nat → ClassId) : ((a 54), .inl (cA 0, 3, .inl (fun _ => 0))) = cel a cA sg0 54 (.inr (0, 3)) := rfl
theorem wc_55 (a : Nat → Nat) (cA : Nat → ClassId) : ((a 55), .inr (4, [.ref (a 56), .ref (a 57), .ref (a 58), .ref (a 59), .ref (a 60), .ref (a 61), .ref (a 62), .null, .long 0, .int 0, .int 0, .long 0])) = cel a cA sg0 55 (.inl (4, [(2, 56), (2, 57), (2, 58), (2, 59), (2, 60), (2, 61), (2, 62), (3, 0), (1, 0), (0, 0), (0, 0), (1, 0)])) := rfl
theorem wc_56 (a : Nat → Nat) (cA : Nat → ClassId) : ((a 56), .inl (cA 0, 60, .inl (fun _ => 0))) = cel a cA sg0 56 (.inr (0, 60)) := rfl
theorem wc_57 (a : Nat → Nat) (cA : Nat → ClassId) : ((a 57), .inl (cA 0, 60, .inl (fun _ => 0))) = cel a cA sg0 57 (.inr (0, 60)) := rfl
theorem wc_58 (a : Nat → Nat) (cA : Nat → ClassId) : ((a 58), .inl (cA 0, 60, .inl (fun _ => 0))) = cel a cA sg0 58 (.inr (0, 60)) := rfl
theorem wc_59 (a : Nat → Nat) (cA : Nat → ClassId) : ((a 59), .inl (cA 0, 60, .inl (fun _ => 0))) = cel a cA sg0 59 (.inr (0, 60)) := rfl
theorem wc_60 (a : Nat → Nat) (cA : Nat → ClassId) : ((a 60), .inl (cA 0, 60, .inl (fun _ => 0))) = cel a cA sg0 60 (.inr (0, 60)) := rfl
theorem wc_61 (a : Nat → Nat) (cA : Nat → ClassId) : ((a 61), .inl (cA 2, 6, .inr (.inl (fun _ => 0)))) = cel a cA sg0 61 (.inr (2, 6)) := rfl
theorem wc_62 (a : Nat → Nat) (cA : Nat → ClassId) : ((a 62), .inl (cA 0, 61, .inl (fun _ => 0))) = cel a cA sg0 62 (.inr (0, 61)) := rfl
theorem wc_63 (a : Nat → Nat) (cA : Nat → ClassId) : ((a 63), .inr (8, [.int 0, .int 0, .int 0, .int 0, .int 0, .ref (a 64)])) = cel a cA sg0 63 (.inl (8, [(0, 0), (0, 0), (0, 0), (0, 0), (4, 0), (2, 64)])) := rfl
theorem wc_64 (a : Nat → Nat) (cA : Nat → ClassId) : ((a 64), .inr (7, [.long 0, .long 0, .int 0, .int 0, .int 0])) = cel a cA sg0 64 (.inl (7, [(1, 0), (1, 0), (0, 0), (0, 0), (0, 0)])) := rfl
theorem wc_65 (a : Nat → Nat) (cA : Nat → ClassId) : ((a 65), .inr (0, [.long 0, .long 0, .long 1, .int 0, .int 0, .int 0])) = cel a cA sg0 65 (.inl (0, [(1, 0), (1, 0), (1, 0), (0, 0), (0, 0), (0, 0)])) := rfl
set_option maxRecDepth 10000 in
set_option maxHeartbeats 1000000 in
theorem wc_66 (a : Nat → Nat) (cA : Nat → ClassId) : ((a 66), .inr (10, [.int 0, .ref (a 67), .int 0, .int 0, .int 0, .int 0, .int 0, .int 0, .int 0, .int 0, .int (-1), .int 0, .ref (a 68), .int 0, .int 0, .ref (a 69), .ref (a 70), .ref (a 71), .ref (a 72), .ref (a 73), .ref (a 74), .ref (a 75), .ref (a 76), .ref (a 77), .int 0, .int 0, .ref (a 78), .int 0, .int 0, .int 0, .int 0, .ref (a 79), .ref (a 80), .ref (a 81), .ref (a 82), .int 0, .int 0, .int 0, .int 0, .int 0, .ref (a 83), .int 0, .int 0, .int 0, .ref (a 84), .int 0, .int 0, .int 0, .int 0, .long 0, .long 0, .long 0])) = cel a cA sg0 66 (.inl (10, [(0, 0), (2, 67), (0, 0), (0, 0), (0, 0), (0, 0), (0, 0), (0, 0), (0, 0), (0, 0), (0, 0), (0, 0), (2, 68), (4, 0), (4, 0), (2, 69), (2, 70), (2, 71), (2, 72), (2, 73), (2, 74), (2, 75), (2, 76), (2, 77), (0, 0), (0, 0), (2, 78), (4, 0), (0, 0), (0, 0), (0, 0), (2, 79), (2, 80), (2, 81), (2, 82), (0, 0), (0, 0), (0, 0), (0, 0), (0, 0), (2, 83), (0, 0), (0, 0), (0, 0), (2, 84), (0, 0), (0, 0), (0, 0), (0, 0), (1, 0), (1, 0), (1, 0)])) := (show ((a 66), .inr (10, [.int 0, .ref (a 67), .int 0, .int 0, .int 0, .int 0, .int 0, .int 0, .int 0, .int 0, .int (-1), .int 0, .ref (a 68), .int 0, .int 0, .ref (a 69), .ref (a 70), .ref (a 71), .ref (a 72), .ref (a 73), .ref (a 74), .ref (a 75), .ref (a 76), .ref (a 77), .int 0, .int 0, .ref (a 78), .int 0, .int 0, .int 0, .int 0, .ref (a 79), .ref (a 80), .ref (a 81), .ref (a 82), .int 0, .int 0, .int 0, .int 0, .int 0, .ref (a 83), .int 0, .int 0, .int 0, .ref (a 84), .int 0, .int 0, .int 0, .int 0, .long 0, .long 0, .long 0])) = (a 66, Sum.inr (10, fF a sg0 66 0 [(0, 0), (2, 67), (0, 0), (0, 0), (0, 0), (0, 0), (0, 0), (0, 0), (0, 0), (0, 0), (0, 0), (0, 0), (2, 68), (4, 0), (4, 0), (2, 69), (2, 70), (2, 71), (2, 72), (2, 73), (2, 74), (2, 75), (2, 76), (2, 77), (0, 0), (0, 0), (2, 78), (4, 0), (0, 0), (0, 0), (0, 0), (2, 79), (2, 80), (2, 81), (2, 82), (0, 0), (0, 0), (0, 0), (0, 0), (0, 0), (2, 83), (0, 0), (0, 0), (0, 0), (2, 84), (0, 0), (0, 0), (0, 0), (0, 0), (1, 0), (1, 0), (1, 0)])) from rfl).trans cel_F
theorem wc_67 (a : Nat → Nat) (cA : Nat → ClassId) : ((a 67), .inl (cA 0, 900, .inl (fun _ => 0))) = cel a cA sg0 67 (.inr (0, 900)) := rfl
theorem wc_68 (a : Nat → Nat) (cA : Nat → ClassId) : ((a 68), .inl (cA 0, 8, .inl (fun _ => 0))) = cel a cA sg0 68 (.inr (0, 8)) := rfl
theorem wc_69 (a : Nat → Nat) (cA : Nat → ClassId) : ((a 69), .inl (cA 0, 189, .inl (fun _ => 0))) = cel a cA sg0 69 (.inr (0, 189)) := rfl
theorem wc_70 (a : Nat → Nat) (cA : Nat → ClassId) : ((a 70), .inl (cA 0, 189, .inl (fun _ => 0))) = cel a cA sg0 70 (.inr (0, 189)) := rfl
theorem wc_71 (a : Nat → Nat) (cA : Nat → ClassId) : ((a 71), .inl (cA 0, 63, .inl (fun _ => 0))) = cel a cA sg0 71 (.inr (0, 63)) := rfl
theorem wc_72 (a : Nat → Nat) (cA : Nat → ClassId) : ((a 72), .inl (cA 0, 63, .inl (fun _ => 0))) = cel a cA sg0 72 (.inr (0, 63)) := rfl
theorem wc_73 (a : Nat → Nat) (cA : Nat → ClassId) : ((a 73), .inl (cA 0, 63, .inl (fun _ => 0))) = cel a cA sg0 73 (.inr (0, 63)) := rfl
theorem wc_74 (a : Nat → Nat) (cA : Nat → ClassId) : ((a 74), .inl (cA 0, 63, .inl (fun _ => 0))) = cel a cA sg0 74 (.inr (0, 63)) := rfl
theorem wc_75 (a : Nat → Nat) (cA : Nat → ClassId) : ((a 75), .inl (cA 0, 63, .inl (fun _ => 0))) = cel a cA sg0 75 (.inr (0, 63)) := rfl
theorem wc_76 (a : Nat → Nat) (cA : Nat → ClassId) : ((a 76), .inl (cA 0, 1008, .inl (fun _ => 0))) = cel a cA sg0 76 (.inr (0, 1008)) := rfl
theorem wc_77 (a : Nat → Nat) (cA : Nat → ClassId) : ((a 77), .inl (cA 0, 189, .inl (fun _ => 0))) = cel a cA sg0 77 (.inr (0, 189)) := rfl
theorem wc_78 (a : Nat → Nat) (cA : Nat → ClassId) : ((a 78), .inl (cA 0, 60, .inl (fun _ => 0))) = cel a cA sg0 78 (.inr (0, 60)) := rfl
theorem wc_79 (a : Nat → Nat) (cA : Nat → ClassId) : ((a 79), .inl (cA 0, 5, .inl (fun _ => 0))) = cel a cA sg0 79 (.inr (0, 5)) := rfl
theorem wc_80 (a : Nat → Nat) (cA : Nat → ClassId) : ((a 80), .inl (cA 0, 378, .inl (fun _ => 0))) = cel a cA sg0 80 (.inr (0, 378)) := rfl
theorem wc_81 (a : Nat → Nat) (cA : Nat → ClassId) : ((a 81), .inl (cA 0, 63, .inl (fun _ => 0))) = cel a cA sg0 81 (.inr (0, 63)) := rfl
theorem wc_82 (a : Nat → Nat) (cA : Nat → ClassId) : ((a 82), .inl (cA 0, 60, .inl (fun _ => 0))) = cel a cA sg0 82 (.inr (0, 60)) := rfl
theorem wc_83 (a : Nat → Nat) (cA : Nat → ClassId) : ((a 83), .inl (cA 0, 61, .inl (fun _ => 0))) = cel a cA sg0 83 (.inr (0, 61)) := rfl
theorem wc_84 (a : Nat → Nat) (cA : Nat → ClassId) : ((a 84), .inl (cA 0, 4, .inl (fun _ => 0))) = cel a cA sg0 84 (.inr (0, 4)) := rfl
theorem wc_85 (a : Nat → Nat) (cA : Nat → ClassId) : ((a 85), .inl (cA 2, 1, .inr (.inl (fun _ => 0)))) = cel a cA sg0 85 (.inr (2, 1)) := rfl
set_option maxRecDepth 100000 in
set_option maxHeartbeats 1000000 in
theorem wl0_eF (a : Nat → Nat) (cA : Nat → ClassId) : wl0 a cA = wlF a cA sg0 0 SH :=
  lc2 (wc_0 a cA) (lc2 (wc_1 a cA) (lc2 (wc_2 a cA) (lc2 (wc_3 a cA) (lc2 (wc_4 a cA) (lc2 (wc_5 a cA) (lc2 (wc_6 a cA) (lc2 (wc_7 a cA) (lc2 (wc_8 a cA) (lc2 (wc_9 a cA) (lc2 (wc_10 a cA) (lc2 (wc_11 a cA) (lc2 (wc_12 a cA) (lc2 (wc_13 a cA) (lc2 (wc_14 a cA) (lc2 (wc_15 a cA) (lc2 (wc_16 a cA) (lc2 (wc_17 a cA) (lc2 (wc_18 a cA) (lc2 (wc_19 a cA) (lc2 (wc_20 a cA) (lc2 (wc_21 a cA) (lc2 (wc_22 a cA) (lc2 (wc_23 a cA) (lc2 (wc_24 a cA) (lc2 (wc_25 a cA) (lc2 (wc_26 a cA) (lc2 (wc_27 a cA) (lc2 (wc_28 a cA) (lc2 (wc_29 a cA) (lc2 (wc_30 a cA) (lc2 (wc_31 a cA) (lc2 (wc_32 a cA) (lc2 (wc_33 a cA) (lc2 (wc_34 a cA) (lc2 (wc_35 a cA) (lc2 (wc_36 a cA) (lc2 (wc_37 a cA) (lc2 (wc_38 a cA) (lc2 (wc_39 a cA) (lc2 (wc_40 a cA) (lc2 (wc_41 a cA) (lc2 (wc_42 a cA) (lc2 (wc_43 a cA) (lc2 (wc_44 a cA) (lc2 (wc_45 a cA) (lc2 (wc_46 a cA) (lc2 (wc_47 a cA) (lc2 (wc_48 a cA) (lc2 (wc_49 a cA) (lc2 (wc_50 a cA) (lc2 (wc_51 a cA) (lc2 (wc_52 a cA) (lc2 (wc_53 a cA) (lc2 (wc_54 a cA) (lc2 (wc_55 a cA) (lc2 (wc_56 a cA) (lc2 (wc_57 a cA) (lc2 (wc_58 a cA) (lc2 (wc_59 a cA) (lc2 (wc_60 a cA) (lc2 (wc_61 a cA) (lc2 (wc_62 a cA) (lc2 (wc_63 a cA) (lc2 (wc_64 a cA) (lc2 (wc_65 a cA) (lc2 (wc_66 a cA) (lc2 (wc_67 a cA) (lc2 (wc_68 a cA) (lc2 (wc_69 a cA) (lc2 (wc_70 a cA) (lc2 (wc_71 a cA) (lc2 (wc_72 a cA) (lc2 (wc_73 a cA) (lc2 (wc_74 a cA) (lc2 (wc_75 a cA) (lc2 (wc_76 a cA) (lc2 (wc_77 a cA) (lc2 (wc_78 a cA) (lc2 (wc_79 a cA) (lc2 (wc_80 a cA) (lc2 (wc_81 a cA) (lc2 (wc_82 a cA) (lc2 (wc_83 a cA) (lc2 (wc_84 a cA) (lc2 (wc_85 a cA) (rfl))))))))))))))))))))))))))))))))))))))))))))))))))))))))))))))))))))))))))))))))))))))
theorem wl0_eq (a : Nat → Nat) (cA : Nat → ClassId) : wl0 a cA = wld a cA sg0 := (wl0_eF a cA).trans wlF_eq
/-- the addresses: the fixed cells, the table ROOM, the formatter, the script, the strings and their bytes -/
def adr (l : List Nat) (t f b : Nat) (aK aV : Nat → Nat) (i : Nat) : Nat := if i < 90 then l.getD i 0 else if i = 90 then t else if i = 91 then f else if i = 92 then b else if i < 200 then aK (i - 100) else aV (i - 200)
theorem adr_K {l : List Nat} {t f b : Nat} {aK aV : Nat → Nat} (i : Nat) (h : i < 20) : adr l t f b aK aV (100 + i) = aK i := by
  unfold adr
  rw [if_neg (by omega), if_neg (by omega), if_neg (by omega), if_neg (by omega), if_pos (by omega), Nat.add_sub_cancel_left]
theorem adr_V {l : List Nat} {t f b : Nat} {aK aV : Nat → Nat} (i : Nat) (h : i < 20) : adr l t f b aK aV (200 + i) = aV i := by
  unfold adr
  rw [if_neg (by omega), if_neg (by omega), if_neg (by omega), if_neg (by omega), if_neg (by omega), Nat.add_sub_cancel_left]
theorem strL_lt : ∀ q ∈ strL, q.2.2 < 20 := by decide
theorem wl0_at {a : Nat → Nat} {cA : Nat → ClassId} {i : Nat} (h : i < SH.length) : ∃ z : va_E, (wl0 a cA)[i]? = some (a i, z) := by
  rw [wl0_eq]
  exact ⟨_, wld_at (List.getElem?_eq_getElem h)⟩
theorem en_fin {p : Program} {l : Launch} {e : Env} {s : State} {m : MethodId} {below : List Frame} {meth : Method} {c : Code} {b L : Nat} {xs : Nat → Int32} {a : Nat → Nat} {cA : Nat → ClassId} {dC : Nat → ClassId} {dI : Nat → Nat → Nat} {H : Heap} {locs : List Loc} {ls : Array Slot} (hflags : l.flags = flags0) (hL : L ≤ 3072) (C0 : lw_At p s m meth c b L xs) (hKc : Kc (dC, dI) cA s)
    {aK aV : Nat → Nat} (hStr : vk_S 20 strLen strByt aK aV (fun q : Nat => s.heap.size ≤ q) s s.heap) (hRef : ∀ q ∈ strL, vk_R (kR q.1) q.2.1 (strTx.getD q.2.2 "") (aK q.2.2) s) (h100 : ∀ i, i < 20 → a (100 + i) = aK i) (h200 : ∀ i, i < 20 → a (200 + i) = aV i)
    (hcs : va_Z "java/lang/String" "COMPACT_STRINGS" "Z" (.int 1) (fun q : Nat => s.heap.size ≤ q) s s.heap) (hR1 : va_Z "SevenLeague$Reade\x72" "ROOM" "[I" (.ref (a 90)) (fun q : Nat => s.heap.size ≤ q) s s.heap) (hR2 : va_T .int (a 90) 7 (fun j => .int (roomL.getD j 0)) (fun q : Nat => s.heap.size ≤ q) s s.heap)
    (hfm : va_Z "jdk/internal/util/Preconditions" "SIOOBE_FORMATTER" "Ljava/util/function/BiFunction;" .null (fun q : Nat => s.heap.size ≤ q) s s.heap ∨ va_Z "jdk/internal/util/Preconditions" "SIOOBE_FORMATTER" "Ljava/util/function/BiFunction;" (.ref (a 91)) (fun q : Nat => s.heap.size ≤ q) s s.heap)
    (h92 : a 92 = b) (hP : va_P (dC, dI) vCl (wl0 a cA) H) (hD : va_D (fun q : Nat => s.heap.size ≤ q) (wl0 a cA)) (hS : va_S (fun q : Nat => s.heap.size ≤ q) s.heap H locs) (hl : lv_has ls 7 [(4, .int 0), (3, .ref (a 85)), (2, .ref (a 66)), (1, .ref (a 0)), (0, .ref b)]) :
    W p l e room_1 s m #[Value.ref b] below meth c H locs 86 5097 (lw_Z below #[Value.ref b] s) (F0 m 23 ls []) := by
  obtain ⟨hx, hb, hr, hml, hown, hts, hX, hbl, hlocks, hgv⟩ := id C0
  have hs := flat_of_before _ hgv
  have hStr : vk_S 20 strLen strByt (fun i => a (100 + i)) (fun i => a (200 + i)) (fun q : Nat => s.heap.size ≤ q) s s.heap := ⟨fun i hi => by have h := hStr.1 i hi; rw [← h100 i hi, ← h200 i hi] at h; exact h, fun i j hi hj e => hStr.2 i j hi hj (by rw [← h100 i hi, ← h100 j hj]; exact e)⟩
  have hRef : ∀ q ∈ strL, vk_R (kR q.1) q.2.1 (strTx.getD q.2.2 "") (a (100 + q.2.2)) s := fun q hq => by rw [h100 _ (strL_lt q hq)]; exact hRef q hq
  have ha : ∀ i, i < SH.length → s.heap.size ≤ a i := fun i hi => by
    obtain ⟨z, hz⟩ := wl0_at (a := a) (cA := cA) hi
    exact hD.2 _ _ hz
  have hAB : ∀ q, Aw a s.heap.size q → s.heap.size ≤ q := fun q hq => by
    rcases hq with ⟨i, hi, e⟩ | h
    · rw [e]; exact ha i hi
    · exact h
  have hin : Inj a := fun i j hi hj e => by
    obtain ⟨z, hz⟩ := wl0_at (a := a) (cA := cA) hi
    obtain ⟨y, hy⟩ := wl0_at (a := a) (cA := cA) hj
    exact hD.1 i j _ _ hz hy e
  have hA' : ∀ q : Nat, q < s.heap.size → ¬ (fun q : Nat => s.heap.size ≤ q) q := fun q h => Nat.not_le.mpr h
  have hle : LedE (fun q : Nat => s.heap.size ≤ q) s s.heap := en_led hts hs hA'
  have hlt : l.stackTraces = false := by
    show (!l.flags.contains noTraceFlag) = false
    rw [hflags, st_flags]
    rfl
  have hC : LwC b L xs 512 ((p, l, e, room_1, s, m, #[Value.ref b], below, meth, c), (a, cA, (dC, dI), (86, 5097), lw_Z below #[Value.ref b] s)) := by
    refine ⟨⟨hx, hb, hown, fun w hw => hts w (List.mem_filter.mp hw).1, hKc.1, hin⟩, ⟨rfl, hml, Nat.le_of_ble_eq_true rfl, Nat.le_of_ble_eq_true rfl, Nat.le_of_ble_eq_true rfl, Nat.le_of_ble_eq_true rfl, ?_⟩, ⟨?_, ?_, ?_⟩, ⟨rfl, rfl, hr, hlocks, ha, Nat.le_of_ble_eq_true rfl, Nat.le_of_ble_eq_true rfl, rfl⟩, ⟨?_, hlt, Nat.le_of_ble_eq_true rfl, Nat.le_of_ble_eq_true rfl⟩⟩
    · exact ⟨hKc.1, hin, hKc.2, hStr.narrow hAB, hRef, hcs.narrow hAB, hR1.narrow hAB, hR2.narrow hAB, hfm.elim (fun h => Or.inl (h.narrow hAB)) (fun h => Or.inr (h.narrow hAB))⟩
    · rw [h92]; exact hX
    · rw [h92]; exact hbl
    · rw [h92]; exact fun h => absurd (hAB _ h) (Nat.not_le.mpr hbl)
    · exact ⟨hle.1, hle.2.1.narrow hAB, hle.2.2.narrow hAB⟩
  have hk := lw_loop (N := 1048576) (by decide) hL 512 0 _ sg0 0 rfl (by omega) (by omega) hC sim_sg0
  refine hk H locs ls ?_ ⟨hS.1, fun q h1 h2 => hS.2.1 q h1 (fun h => h2 (Or.inr h)), fun o ho => Or.inr (hS.2.2 o ho)⟩ ⟨?_, ?_, hl.2.1, fun i v h => ?_⟩
  · rw [← wl0_eq]; exact hP
  · rw [hml]; exact hl.1
  · rw [hml]; rfl
  · match i, h with
    | 0, h => cases h; show ls[0]? = some (.val (.ref (a 92))); rw [h92]; exact hl.2.2 (0, .ref b) (by simp)
    | 1, h => cases h; exact hl.2.2 (1, .ref (a 0)) (by simp)
    | 2, h => cases h; exact hl.2.2 (2, .ref (a 66)) (by simp)
    | 3, h => cases h; exact hl.2.2 (3, .ref (a 85)) (by simp)
    | 4, h => cases h; exact hl.2.2 (4, .int 0) (by simp)
    | 5, h => cases h
    | 6, h => cases h
    | n + 7, h => simp at h
end ENTRC
