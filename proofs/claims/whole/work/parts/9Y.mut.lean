/-! what is TOLD: class and reference take it alike -/
section MUT
variable {g g' z z' : GG} {r r' : RR} {K : Nat → CUS}
theorem vC_u {c k : Nat} {v : Int} (f : Nat) (h : (c, f) ∈ [(3, 1), (4, 2), (6, 3), (7, 4), (8, 5), (9, 6), (10, 7), (12, 8), (13, 9), (14, 10), (15, 11), (16, 12), (17, 13)]) : vC (up2 g c k v) = up2 (vC g) f k v := by
  funext f' i
  simp only [List.mem_cons, Prod.mk.injEq, List.not_mem_nil, or_false] at h
  rcases h with ⟨rfl, rfl⟩ | ⟨rfl, rfl⟩ | ⟨rfl, rfl⟩ | ⟨rfl, rfl⟩ | ⟨rfl, rfl⟩ | ⟨rfl, rfl⟩ | ⟨rfl, rfl⟩ | ⟨rfl, rfl⟩ | ⟨rfl, rfl⟩ | ⟨rfl, rfl⟩ | ⟨rfl, rfl⟩ | ⟨rfl, rfl⟩ | ⟨rfl, rfl⟩ <;>
    (rcases f' with _ | _ | _ | _ | _ | _ | _ | _ | _ | _ | _ | _ | _ | _ | f' <;> simp [vC, up2])
theorem vM_u {c k : Nat} {v : Int} (f : Nat) (h : (c, f) ∈ [(76, 1), (77, 2), (78, 3), (79, 4), (80, 5), (81, 6), (82, 7), (83, 8), (84, 9), (85, 10), (86, 11), (87, 12), (88, 13)]) : vM (up2 g c k v) = up2 (vM g) f k v := by
  funext f' i
  simp only [List.mem_cons, Prod.mk.injEq, List.not_mem_nil, or_false] at h
  rcases h with ⟨rfl, rfl⟩ | ⟨rfl, rfl⟩ | ⟨rfl, rfl⟩ | ⟨rfl, rfl⟩ | ⟨rfl, rfl⟩ | ⟨rfl, rfl⟩ | ⟨rfl, rfl⟩ | ⟨rfl, rfl⟩ | ⟨rfl, rfl⟩ | ⟨rfl, rfl⟩ | ⟨rfl, rfl⟩ | ⟨rfl, rfl⟩ | ⟨rfl, rfl⟩ <;>
    (rcases f' with _ | _ | _ | _ | _ | _ | _ | _ | _ | _ | _ | _ | _ | _ | f' <;> simp [vM, up2])
theorem vC_z {c k : Nat} {v : Int} (i : Nat) (h : (c, k, i) ∈ [(2, 2, 0), (5, 5, 1), (11, 7, 2), (1, 3, 3), (1, 4, 4), (30, 1, 5), (30, 2, 6), (30, 3, 7)]) : vC (up2 g c k v) = up2 (vC g) 0 i v := by
  funext f' j
  simp only [List.mem_cons, Prod.mk.injEq, List.not_mem_nil, or_false] at h
  rcases h with ⟨rfl, rfl, rfl⟩ | ⟨rfl, rfl, rfl⟩ | ⟨rfl, rfl, rfl⟩ | ⟨rfl, rfl, rfl⟩ | ⟨rfl, rfl, rfl⟩ | ⟨rfl, rfl, rfl⟩ | ⟨rfl, rfl, rfl⟩ | ⟨rfl, rfl, rfl⟩ <;>
    (rcases f' with _ | _ | _ | _ | _ | _ | _ | _ | _ | _ | _ | _ | _ | _ | f' <;> (try simp [vC, up2]) <;> (rcases j with _ | _ | _ | _ | _ | _ | _ | _ | j <;> simp))
theorem vM_z {k : Nat} {v : Int} (i : Nat) (h : (k, i) ∈ [(2, 0), (3, 1), (4, 2), (8, 3), (9, 4), (5, 5), (6, 6), (7, 7)]) : vM (up2 g 74 k v) = up2 (vM g) 0 i v := by
  funext f' j
  simp only [List.mem_cons, Prod.mk.injEq, List.not_mem_nil, or_false] at h
  rcases h with ⟨rfl, rfl⟩ | ⟨rfl, rfl⟩ | ⟨rfl, rfl⟩ | ⟨rfl, rfl⟩ | ⟨rfl, rfl⟩ | ⟨rfl, rfl⟩ | ⟨rfl, rfl⟩ | ⟨rfl, rfl⟩ <;>
    (rcases f' with _ | _ | _ | _ | _ | _ | _ | _ | _ | _ | _ | _ | _ | _ | f' <;> (try simp [vM, up2]) <;> (rcases j with _ | _ | _ | _ | _ | _ | _ | _ | j <;> simp))
theorem vC_o {c k : Nat} {v : Int} (h : ¬ vcell c) : vC (up2 g c k v) = vC g := vC_cong (fun c' h' => up2_ne (fun e => h (e ▸ h')))
theorem vM_o {c k : Nat} {v : Int} (h : c ≤ 73) : vM (up2 g c k v) = vM g := vM_cong (fun c' a _ => up2_ne (by omega)) (fun k' _ _ => by rw [up2_ne (by omega)])
theorem vM_o2 {k : Nat} {v : Int} (h : k = 1 ∨ 10 ≤ k) : vM (up2 g 74 k v) = vM g := vM_cong (fun c' a _ => up2_ne (by omega)) (fun k' _ _ => up2_k (by omega))
end MUT
