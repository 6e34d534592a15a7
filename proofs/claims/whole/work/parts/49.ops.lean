/-! what is owed of the pairs: each call keeps the relation, and is answered alike -/
