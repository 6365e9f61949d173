/-! the orders of n numbers, in their order -/
def cT2 : List Nat := [1, 8]
def cT3 : List Nat := [10, 17, 66, 80, 129, 136]
def cT4 : List Nat := [83, 90, 139, 153, 202, 209, 531, 538, 643, 664, 706, 720, 1035, 1049, 1091, 1112, 1217, 1224, 1546, 1553, 1602, 1616, 1665, 1672]
def cT5 : List Nat := [668, 675, 724, 738, 787, 794, 1116, 1123, 1228, 1249, 1291, 1305, 1620, 1634, 1676, 1697, 1802, 1809, 2131, 2138, 2187, 2201, 2250, 2257, 4252, 4259, 4308, 4322, 4371, 4378, 5148, 5155, 5316, 5344, 5379, 5400, 5652, 5666, 5764, 5792, 5890, 5904, 6163, 6170, 6275, 6296, 6338, 6352, 8284, 8291, 8396, 8417, 8459, 8473, 8732, 8739, 8900, 8928, 8963, 8984, 9740, 9761, 9796, 9824, 9985, 9992, 10251, 10265, 10307, 10328, 10433, 10440, 12372, 12386, 12428, 12449, 12554, 12561, 12820, 12834, 12932, 12960, 13058, 13072, 13324, 13345, 13380, 13408, 13569, 13576, 14346, 14353, 14402, 14416, 14465, 14472, 16467, 16474, 16523, 16537, 16586, 16593, 16915, 16922, 17027, 17048, 17090, 17104, 17419, 17433, 17475, 17496, 17601, 17608, 17930, 17937, 17986, 18000, 18049, 18056]
def cT (n : Nat) : List Nat := if n = 2 then cT2 else if n = 3 then cT3 else if n = 4 then cT4 else cT5
def qfa : Nat → Nat
  | 0 => 1
  | n + 1 => qfa n * (n + 1)
def cO (n k i : Nat) : Nat := qdx ((cT n).getD k 0) (n - 1 - i)
/-- the digits of a number to the base m; which of them there are -/
def bdg (m c j : Nat) : Nat := c / m ^ j % m
def bmk (m c : Nat) : Nat → Nat
  | 0 => 0
  | i + 1 => bmk m c i ||| 2 ^ bdg m c i
def bcv (m c : Nat) : Nat → Nat
  | 0 => 0
  | i + 1 => bcv m c i + bdg m c i * 8 ^ i
def cgo (m M : Nat) : Nat → List Nat → Bool
  | 0, rest => rest.isEmpty
  | f + 1, rest => if bmk m (M - (f + 1)) m = 2 ^ m - 1 then (match rest with | [] => false | t :: ts => decide (bcv m (M - (f + 1)) m = t) && cgo m M f ts) else cgo m M f rest
def cin : List Nat → Bool
  | [] => true
  | [_] => true
  | a :: b :: r => decide (a < b) && cin (b :: r)
theorem cgo2 : cgo 2 4 4 cT2 = true := by decide +kernel
theorem cgo3 : cgo 3 27 27 cT3 = true := by decide +kernel
theorem cgo4 : cgo 4 256 256 cT4 = true := by decide +kernel
theorem cgo5 : cgo 5 3125 3125 cT5 = true := by decide +kernel
theorem cin2 : cin cT2 = true := by decide +kernel
theorem cin3 : cin cT3 = true := by decide +kernel
theorem cin4 : cin cT4 = true := by decide +kernel
theorem cin5 : cin cT5 = true := by decide +kernel
theorem cor2 : ∀ k : Fin 2, f_X0_orderAt (nI 2) (nI k.val) (nI 2) = some (nI (cT2.getD k.val 0)) := by decide +kernel
theorem cor3 : ∀ k : Fin 6, f_X0_orderAt (nI 3) (nI k.val) (nI 6) = some (nI (cT3.getD k.val 0)) := by decide +kernel
theorem cor4 : ∀ k : Fin 24, f_X0_orderAt (nI 4) (nI k.val) (nI 24) = some (nI (cT4.getD k.val 0)) := by decide +kernel
theorem cor5 : ∀ k : Fin 120, f_X0_orderAt (nI 5) (nI k.val) (nI 120) = some (nI (cT5.getD k.val 0)) := by decide +kernel
theorem cT_all {n : Nat} (h : 2 ≤ n) (h5 : n ≤ 5) : cgo n (n ^ n) (n ^ n) (cT n) = true ∧ cin (cT n) = true ∧ (cT n).length = qfa n ∧ ∀ k, k < qfa n → f_X0_orderAt (nI n) (nI k) (nI (qfa n)) = some (nI ((cT n).getD k 0)) := by
  have : n = 2 ∨ n = 3 ∨ n = 4 ∨ n = 5 := by omega
  rcases this with rfl | rfl | rfl | rfl
  · exact ⟨cgo2, cin2, rfl, fun k hk => cor2 ⟨k, hk⟩⟩
  · exact ⟨cgo3, cin3, rfl, fun k hk => cor3 ⟨k, hk⟩⟩
  · exact ⟨cgo4, cin4, rfl, fun k hk => cor4 ⟨k, hk⟩⟩
  · exact ⟨cgo5, cin5, rfl, fun k hk => cor5 ⟨k, hk⟩⟩
