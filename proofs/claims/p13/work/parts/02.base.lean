def fTK : Nat → Int32 := fun j => if j = 0 then 15 else if j = 1 then 3 else if j = 2 then 12 else if j = 3 then 0 else 3
def fRG : Nat → Int32 := fun j => if j = 0 then 2 else if j = 1 then 4 else if j = 2 then 3 else if j = 3 then 5 else if j = 4 then 0 else if j = 5 then 2 else if j = 6 then 1 else 3
def fKK : Nat → Int32 := fun j => if j = 0 then 1 else if j = 1 then 3 else if j = 2 then 5 else if j = 3 then 9 else 19
def fKC : Nat → Int32 := fun j => if j = 0 then 3 else if j = 1 then 5 else 19
